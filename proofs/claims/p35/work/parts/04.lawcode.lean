/-! the code of the law is what the tables say: 32 places at a time -/
set_option maxRecDepth 100000 in
theorem am_kl_112_0 : ∀ k, k < 24 → am_chko cL_cell 8 (0 + k) (am_c112 (0 + k)) = true := by decide +kernel
theorem am_kl_112_all : ∀ pc, pc < 24 → am_chko cL_cell 8 pc (am_c112 pc) = true := by
  intro pc h
  by_cases h0 : pc < 24
  · have := am_kl_112_0 (pc - 0) (by omega)
    rwa [show 0 + (pc - 0) = pc by omega] at this
  · exact absurd h h0
theorem am_k_112 : ∀ pc e, am_c112 pc = some e → am_chk cL_cell 8 pc e = true := am_kall (N := 24) (fun _ => rfl) am_kl_112_all
set_option maxRecDepth 100000 in
theorem am_kl_113_0 : ∀ k, k < 22 → am_chko cL_bits 8 (0 + k) (am_c113 (0 + k)) = true := by decide +kernel
theorem am_kl_113_all : ∀ pc, pc < 22 → am_chko cL_bits 8 pc (am_c113 pc) = true := by
  intro pc h
  by_cases h0 : pc < 22
  · have := am_kl_113_0 (pc - 0) (by omega)
    rwa [show 0 + (pc - 0) = pc by omega] at this
  · exact absurd h h0
theorem am_k_113 : ∀ pc e, am_c113 pc = some e → am_chk cL_bits 8 pc e = true := am_kall (N := 22) (fun _ => rfl) am_kl_113_all
set_option maxRecDepth 100000 in
theorem am_kl_114_0 : ∀ k, k < 32 → am_chko cL_divisor 8 (0 + k) (am_c114 (0 + k)) = true := by decide +kernel
set_option maxRecDepth 100000 in
theorem am_kl_114_32 : ∀ k, k < 13 → am_chko cL_divisor 8 (32 + k) (am_c114 (32 + k)) = true := by decide +kernel
theorem am_kl_114_all : ∀ pc, pc < 45 → am_chko cL_divisor 8 pc (am_c114 pc) = true := by
  intro pc h
  by_cases h0 : pc < 32
  · have := am_kl_114_0 (pc - 0) (by omega)
    rwa [show 0 + (pc - 0) = pc by omega] at this
  by_cases h32 : pc < 45
  · have := am_kl_114_32 (pc - 32) (by omega)
    rwa [show 32 + (pc - 32) = pc by omega] at this
  · exact absurd h h32
theorem am_k_114 : ∀ pc e, am_c114 pc = some e → am_chk cL_divisor 8 pc e = true := am_kall (N := 45) (fun _ => rfl) am_kl_114_all
set_option maxRecDepth 100000 in
theorem am_kl_115_0 : ∀ k, k < 32 → am_chko cL_builds 8 (0 + k) (am_c115 (0 + k)) = true := by decide +kernel
set_option maxRecDepth 100000 in
theorem am_kl_115_32 : ∀ k, k < 32 → am_chko cL_builds 8 (32 + k) (am_c115 (32 + k)) = true := by decide +kernel
set_option maxRecDepth 100000 in
theorem am_kl_115_64 : ∀ k, k < 32 → am_chko cL_builds 8 (64 + k) (am_c115 (64 + k)) = true := by decide +kernel
set_option maxRecDepth 100000 in
theorem am_kl_115_96 : ∀ k, k < 32 → am_chko cL_builds 8 (96 + k) (am_c115 (96 + k)) = true := by decide +kernel
set_option maxRecDepth 100000 in
theorem am_kl_115_128 : ∀ k, k < 32 → am_chko cL_builds 8 (128 + k) (am_c115 (128 + k)) = true := by decide +kernel
set_option maxRecDepth 100000 in
theorem am_kl_115_160 : ∀ k, k < 32 → am_chko cL_builds 8 (160 + k) (am_c115 (160 + k)) = true := by decide +kernel
set_option maxRecDepth 100000 in
theorem am_kl_115_192 : ∀ k, k < 32 → am_chko cL_builds 8 (192 + k) (am_c115 (192 + k)) = true := by decide +kernel
set_option maxRecDepth 100000 in
theorem am_kl_115_224 : ∀ k, k < 32 → am_chko cL_builds 8 (224 + k) (am_c115 (224 + k)) = true := by decide +kernel
set_option maxRecDepth 100000 in
theorem am_kl_115_256 : ∀ k, k < 32 → am_chko cL_builds 8 (256 + k) (am_c115 (256 + k)) = true := by decide +kernel
set_option maxRecDepth 100000 in
theorem am_kl_115_288 : ∀ k, k < 32 → am_chko cL_builds 8 (288 + k) (am_c115 (288 + k)) = true := by decide +kernel
set_option maxRecDepth 100000 in
theorem am_kl_115_320 : ∀ k, k < 32 → am_chko cL_builds 8 (320 + k) (am_c115 (320 + k)) = true := by decide +kernel
set_option maxRecDepth 100000 in
theorem am_kl_115_352 : ∀ k, k < 32 → am_chko cL_builds 8 (352 + k) (am_c115 (352 + k)) = true := by decide +kernel
set_option maxRecDepth 100000 in
theorem am_kl_115_384 : ∀ k, k < 10 → am_chko cL_builds 8 (384 + k) (am_c115 (384 + k)) = true := by decide +kernel
theorem am_kl_115_all : ∀ pc, pc < 394 → am_chko cL_builds 8 pc (am_c115 pc) = true := by
  intro pc h
  by_cases h0 : pc < 32
  · have := am_kl_115_0 (pc - 0) (by omega)
    rwa [show 0 + (pc - 0) = pc by omega] at this
  by_cases h32 : pc < 64
  · have := am_kl_115_32 (pc - 32) (by omega)
    rwa [show 32 + (pc - 32) = pc by omega] at this
  by_cases h64 : pc < 96
  · have := am_kl_115_64 (pc - 64) (by omega)
    rwa [show 64 + (pc - 64) = pc by omega] at this
  by_cases h96 : pc < 128
  · have := am_kl_115_96 (pc - 96) (by omega)
    rwa [show 96 + (pc - 96) = pc by omega] at this
  by_cases h128 : pc < 160
  · have := am_kl_115_128 (pc - 128) (by omega)
    rwa [show 128 + (pc - 128) = pc by omega] at this
  by_cases h160 : pc < 192
  · have := am_kl_115_160 (pc - 160) (by omega)
    rwa [show 160 + (pc - 160) = pc by omega] at this
  by_cases h192 : pc < 224
  · have := am_kl_115_192 (pc - 192) (by omega)
    rwa [show 192 + (pc - 192) = pc by omega] at this
  by_cases h224 : pc < 256
  · have := am_kl_115_224 (pc - 224) (by omega)
    rwa [show 224 + (pc - 224) = pc by omega] at this
  by_cases h256 : pc < 288
  · have := am_kl_115_256 (pc - 256) (by omega)
    rwa [show 256 + (pc - 256) = pc by omega] at this
  by_cases h288 : pc < 320
  · have := am_kl_115_288 (pc - 288) (by omega)
    rwa [show 288 + (pc - 288) = pc by omega] at this
  by_cases h320 : pc < 352
  · have := am_kl_115_320 (pc - 320) (by omega)
    rwa [show 320 + (pc - 320) = pc by omega] at this
  by_cases h352 : pc < 384
  · have := am_kl_115_352 (pc - 352) (by omega)
    rwa [show 352 + (pc - 352) = pc by omega] at this
  by_cases h384 : pc < 394
  · have := am_kl_115_384 (pc - 384) (by omega)
    rwa [show 384 + (pc - 384) = pc by omega] at this
  · exact absurd h h384
theorem am_k_115 : ∀ pc e, am_c115 pc = some e → am_chk cL_builds 8 pc e = true := am_kall (N := 394) (fun _ => rfl) am_kl_115_all
set_option maxRecDepth 100000 in
theorem am_kl_116_0 : ∀ k, k < 32 → am_chko cL_words 8 (0 + k) (am_c116 (0 + k)) = true := by decide +kernel
set_option maxRecDepth 100000 in
theorem am_kl_116_32 : ∀ k, k < 32 → am_chko cL_words 8 (32 + k) (am_c116 (32 + k)) = true := by decide +kernel
set_option maxRecDepth 100000 in
theorem am_kl_116_64 : ∀ k, k < 32 → am_chko cL_words 8 (64 + k) (am_c116 (64 + k)) = true := by decide +kernel
set_option maxRecDepth 100000 in
theorem am_kl_116_96 : ∀ k, k < 32 → am_chko cL_words 8 (96 + k) (am_c116 (96 + k)) = true := by decide +kernel
set_option maxRecDepth 100000 in
theorem am_kl_116_128 : ∀ k, k < 32 → am_chko cL_words 8 (128 + k) (am_c116 (128 + k)) = true := by decide +kernel
set_option maxRecDepth 100000 in
theorem am_kl_116_160 : ∀ k, k < 32 → am_chko cL_words 8 (160 + k) (am_c116 (160 + k)) = true := by decide +kernel
set_option maxRecDepth 100000 in
theorem am_kl_116_192 : ∀ k, k < 32 → am_chko cL_words 8 (192 + k) (am_c116 (192 + k)) = true := by decide +kernel
set_option maxRecDepth 100000 in
theorem am_kl_116_224 : ∀ k, k < 32 → am_chko cL_words 8 (224 + k) (am_c116 (224 + k)) = true := by decide +kernel
set_option maxRecDepth 100000 in
theorem am_kl_116_256 : ∀ k, k < 32 → am_chko cL_words 8 (256 + k) (am_c116 (256 + k)) = true := by decide +kernel
set_option maxRecDepth 100000 in
theorem am_kl_116_288 : ∀ k, k < 32 → am_chko cL_words 8 (288 + k) (am_c116 (288 + k)) = true := by decide +kernel
set_option maxRecDepth 100000 in
theorem am_kl_116_320 : ∀ k, k < 32 → am_chko cL_words 8 (320 + k) (am_c116 (320 + k)) = true := by decide +kernel
set_option maxRecDepth 100000 in
theorem am_kl_116_352 : ∀ k, k < 10 → am_chko cL_words 8 (352 + k) (am_c116 (352 + k)) = true := by decide +kernel
theorem am_kl_116_all : ∀ pc, pc < 362 → am_chko cL_words 8 pc (am_c116 pc) = true := by
  intro pc h
  by_cases h0 : pc < 32
  · have := am_kl_116_0 (pc - 0) (by omega)
    rwa [show 0 + (pc - 0) = pc by omega] at this
  by_cases h32 : pc < 64
  · have := am_kl_116_32 (pc - 32) (by omega)
    rwa [show 32 + (pc - 32) = pc by omega] at this
  by_cases h64 : pc < 96
  · have := am_kl_116_64 (pc - 64) (by omega)
    rwa [show 64 + (pc - 64) = pc by omega] at this
  by_cases h96 : pc < 128
  · have := am_kl_116_96 (pc - 96) (by omega)
    rwa [show 96 + (pc - 96) = pc by omega] at this
  by_cases h128 : pc < 160
  · have := am_kl_116_128 (pc - 128) (by omega)
    rwa [show 128 + (pc - 128) = pc by omega] at this
  by_cases h160 : pc < 192
  · have := am_kl_116_160 (pc - 160) (by omega)
    rwa [show 160 + (pc - 160) = pc by omega] at this
  by_cases h192 : pc < 224
  · have := am_kl_116_192 (pc - 192) (by omega)
    rwa [show 192 + (pc - 192) = pc by omega] at this
  by_cases h224 : pc < 256
  · have := am_kl_116_224 (pc - 224) (by omega)
    rwa [show 224 + (pc - 224) = pc by omega] at this
  by_cases h256 : pc < 288
  · have := am_kl_116_256 (pc - 256) (by omega)
    rwa [show 256 + (pc - 256) = pc by omega] at this
  by_cases h288 : pc < 320
  · have := am_kl_116_288 (pc - 288) (by omega)
    rwa [show 288 + (pc - 288) = pc by omega] at this
  by_cases h320 : pc < 352
  · have := am_kl_116_320 (pc - 320) (by omega)
    rwa [show 320 + (pc - 320) = pc by omega] at this
  by_cases h352 : pc < 362
  · have := am_kl_116_352 (pc - 352) (by omega)
    rwa [show 352 + (pc - 352) = pc by omega] at this
  · exact absurd h h352
theorem am_k_116 : ∀ pc e, am_c116 pc = some e → am_chk cL_words 8 pc e = true := am_kall (N := 362) (fun _ => rfl) am_kl_116_all
set_option maxRecDepth 100000 in
theorem am_kl_117_0 : ∀ k, k < 32 → am_chko cL_frames 8 (0 + k) (am_c117 (0 + k)) = true := by decide +kernel
set_option maxRecDepth 100000 in
theorem am_kl_117_32 : ∀ k, k < 32 → am_chko cL_frames 8 (32 + k) (am_c117 (32 + k)) = true := by decide +kernel
set_option maxRecDepth 100000 in
theorem am_kl_117_64 : ∀ k, k < 32 → am_chko cL_frames 8 (64 + k) (am_c117 (64 + k)) = true := by decide +kernel
set_option maxRecDepth 100000 in
theorem am_kl_117_96 : ∀ k, k < 32 → am_chko cL_frames 8 (96 + k) (am_c117 (96 + k)) = true := by decide +kernel
set_option maxRecDepth 100000 in
theorem am_kl_117_128 : ∀ k, k < 32 → am_chko cL_frames 8 (128 + k) (am_c117 (128 + k)) = true := by decide +kernel
set_option maxRecDepth 100000 in
theorem am_kl_117_160 : ∀ k, k < 32 → am_chko cL_frames 8 (160 + k) (am_c117 (160 + k)) = true := by decide +kernel
set_option maxRecDepth 100000 in
theorem am_kl_117_192 : ∀ k, k < 32 → am_chko cL_frames 8 (192 + k) (am_c117 (192 + k)) = true := by decide +kernel
set_option maxRecDepth 100000 in
theorem am_kl_117_224 : ∀ k, k < 32 → am_chko cL_frames 8 (224 + k) (am_c117 (224 + k)) = true := by decide +kernel
set_option maxRecDepth 100000 in
theorem am_kl_117_256 : ∀ k, k < 32 → am_chko cL_frames 8 (256 + k) (am_c117 (256 + k)) = true := by decide +kernel
set_option maxRecDepth 100000 in
theorem am_kl_117_288 : ∀ k, k < 32 → am_chko cL_frames 8 (288 + k) (am_c117 (288 + k)) = true := by decide +kernel
set_option maxRecDepth 100000 in
theorem am_kl_117_320 : ∀ k, k < 32 → am_chko cL_frames 8 (320 + k) (am_c117 (320 + k)) = true := by decide +kernel
set_option maxRecDepth 100000 in
theorem am_kl_117_352 : ∀ k, k < 32 → am_chko cL_frames 8 (352 + k) (am_c117 (352 + k)) = true := by decide +kernel
set_option maxRecDepth 100000 in
theorem am_kl_117_384 : ∀ k, k < 32 → am_chko cL_frames 8 (384 + k) (am_c117 (384 + k)) = true := by decide +kernel
set_option maxRecDepth 100000 in
theorem am_kl_117_416 : ∀ k, k < 32 → am_chko cL_frames 8 (416 + k) (am_c117 (416 + k)) = true := by decide +kernel
set_option maxRecDepth 100000 in
theorem am_kl_117_448 : ∀ k, k < 32 → am_chko cL_frames 8 (448 + k) (am_c117 (448 + k)) = true := by decide +kernel
set_option maxRecDepth 100000 in
theorem am_kl_117_480 : ∀ k, k < 32 → am_chko cL_frames 8 (480 + k) (am_c117 (480 + k)) = true := by decide +kernel
set_option maxRecDepth 100000 in
theorem am_kl_117_512 : ∀ k, k < 32 → am_chko cL_frames 8 (512 + k) (am_c117 (512 + k)) = true := by decide +kernel
set_option maxRecDepth 100000 in
theorem am_kl_117_544 : ∀ k, k < 32 → am_chko cL_frames 8 (544 + k) (am_c117 (544 + k)) = true := by decide +kernel
set_option maxRecDepth 100000 in
theorem am_kl_117_576 : ∀ k, k < 32 → am_chko cL_frames 8 (576 + k) (am_c117 (576 + k)) = true := by decide +kernel
set_option maxRecDepth 100000 in
theorem am_kl_117_608 : ∀ k, k < 10 → am_chko cL_frames 8 (608 + k) (am_c117 (608 + k)) = true := by decide +kernel
theorem am_kl_117_all : ∀ pc, pc < 618 → am_chko cL_frames 8 pc (am_c117 pc) = true := by
  intro pc h
  by_cases h0 : pc < 32
  · have := am_kl_117_0 (pc - 0) (by omega)
    rwa [show 0 + (pc - 0) = pc by omega] at this
  by_cases h32 : pc < 64
  · have := am_kl_117_32 (pc - 32) (by omega)
    rwa [show 32 + (pc - 32) = pc by omega] at this
  by_cases h64 : pc < 96
  · have := am_kl_117_64 (pc - 64) (by omega)
    rwa [show 64 + (pc - 64) = pc by omega] at this
  by_cases h96 : pc < 128
  · have := am_kl_117_96 (pc - 96) (by omega)
    rwa [show 96 + (pc - 96) = pc by omega] at this
  by_cases h128 : pc < 160
  · have := am_kl_117_128 (pc - 128) (by omega)
    rwa [show 128 + (pc - 128) = pc by omega] at this
  by_cases h160 : pc < 192
  · have := am_kl_117_160 (pc - 160) (by omega)
    rwa [show 160 + (pc - 160) = pc by omega] at this
  by_cases h192 : pc < 224
  · have := am_kl_117_192 (pc - 192) (by omega)
    rwa [show 192 + (pc - 192) = pc by omega] at this
  by_cases h224 : pc < 256
  · have := am_kl_117_224 (pc - 224) (by omega)
    rwa [show 224 + (pc - 224) = pc by omega] at this
  by_cases h256 : pc < 288
  · have := am_kl_117_256 (pc - 256) (by omega)
    rwa [show 256 + (pc - 256) = pc by omega] at this
  by_cases h288 : pc < 320
  · have := am_kl_117_288 (pc - 288) (by omega)
    rwa [show 288 + (pc - 288) = pc by omega] at this
  by_cases h320 : pc < 352
  · have := am_kl_117_320 (pc - 320) (by omega)
    rwa [show 320 + (pc - 320) = pc by omega] at this
  by_cases h352 : pc < 384
  · have := am_kl_117_352 (pc - 352) (by omega)
    rwa [show 352 + (pc - 352) = pc by omega] at this
  by_cases h384 : pc < 416
  · have := am_kl_117_384 (pc - 384) (by omega)
    rwa [show 384 + (pc - 384) = pc by omega] at this
  by_cases h416 : pc < 448
  · have := am_kl_117_416 (pc - 416) (by omega)
    rwa [show 416 + (pc - 416) = pc by omega] at this
  by_cases h448 : pc < 480
  · have := am_kl_117_448 (pc - 448) (by omega)
    rwa [show 448 + (pc - 448) = pc by omega] at this
  by_cases h480 : pc < 512
  · have := am_kl_117_480 (pc - 480) (by omega)
    rwa [show 480 + (pc - 480) = pc by omega] at this
  by_cases h512 : pc < 544
  · have := am_kl_117_512 (pc - 512) (by omega)
    rwa [show 512 + (pc - 512) = pc by omega] at this
  by_cases h544 : pc < 576
  · have := am_kl_117_544 (pc - 544) (by omega)
    rwa [show 544 + (pc - 544) = pc by omega] at this
  by_cases h576 : pc < 608
  · have := am_kl_117_576 (pc - 576) (by omega)
    rwa [show 576 + (pc - 576) = pc by omega] at this
  by_cases h608 : pc < 618
  · have := am_kl_117_608 (pc - 608) (by omega)
    rwa [show 608 + (pc - 608) = pc by omega] at this
  · exact absurd h h608
theorem am_k_117 : ∀ pc e, am_c117 pc = some e → am_chk cL_frames 8 pc e = true := am_kall (N := 618) (fun _ => rfl) am_kl_117_all
set_option maxRecDepth 100000 in
theorem am_kl_118_0 : ∀ k, k < 32 → am_chko cL_seen 8 (0 + k) (am_c118 (0 + k)) = true := by decide +kernel
set_option maxRecDepth 100000 in
theorem am_kl_118_32 : ∀ k, k < 32 → am_chko cL_seen 8 (32 + k) (am_c118 (32 + k)) = true := by decide +kernel
set_option maxRecDepth 100000 in
theorem am_kl_118_64 : ∀ k, k < 32 → am_chko cL_seen 8 (64 + k) (am_c118 (64 + k)) = true := by decide +kernel
set_option maxRecDepth 100000 in
theorem am_kl_118_96 : ∀ k, k < 32 → am_chko cL_seen 8 (96 + k) (am_c118 (96 + k)) = true := by decide +kernel
set_option maxRecDepth 100000 in
theorem am_kl_118_128 : ∀ k, k < 32 → am_chko cL_seen 8 (128 + k) (am_c118 (128 + k)) = true := by decide +kernel
set_option maxRecDepth 100000 in
theorem am_kl_118_160 : ∀ k, k < 32 → am_chko cL_seen 8 (160 + k) (am_c118 (160 + k)) = true := by decide +kernel
set_option maxRecDepth 100000 in
theorem am_kl_118_192 : ∀ k, k < 32 → am_chko cL_seen 8 (192 + k) (am_c118 (192 + k)) = true := by decide +kernel
set_option maxRecDepth 100000 in
theorem am_kl_118_224 : ∀ k, k < 32 → am_chko cL_seen 8 (224 + k) (am_c118 (224 + k)) = true := by decide +kernel
set_option maxRecDepth 100000 in
theorem am_kl_118_256 : ∀ k, k < 32 → am_chko cL_seen 8 (256 + k) (am_c118 (256 + k)) = true := by decide +kernel
set_option maxRecDepth 100000 in
theorem am_kl_118_288 : ∀ k, k < 32 → am_chko cL_seen 8 (288 + k) (am_c118 (288 + k)) = true := by decide +kernel
set_option maxRecDepth 100000 in
theorem am_kl_118_320 : ∀ k, k < 32 → am_chko cL_seen 8 (320 + k) (am_c118 (320 + k)) = true := by decide +kernel
set_option maxRecDepth 100000 in
theorem am_kl_118_352 : ∀ k, k < 32 → am_chko cL_seen 8 (352 + k) (am_c118 (352 + k)) = true := by decide +kernel
set_option maxRecDepth 100000 in
theorem am_kl_118_384 : ∀ k, k < 32 → am_chko cL_seen 8 (384 + k) (am_c118 (384 + k)) = true := by decide +kernel
set_option maxRecDepth 100000 in
theorem am_kl_118_416 : ∀ k, k < 32 → am_chko cL_seen 8 (416 + k) (am_c118 (416 + k)) = true := by decide +kernel
set_option maxRecDepth 100000 in
theorem am_kl_118_448 : ∀ k, k < 32 → am_chko cL_seen 8 (448 + k) (am_c118 (448 + k)) = true := by decide +kernel
set_option maxRecDepth 100000 in
theorem am_kl_118_480 : ∀ k, k < 32 → am_chko cL_seen 8 (480 + k) (am_c118 (480 + k)) = true := by decide +kernel
set_option maxRecDepth 100000 in
theorem am_kl_118_512 : ∀ k, k < 32 → am_chko cL_seen 8 (512 + k) (am_c118 (512 + k)) = true := by decide +kernel
set_option maxRecDepth 100000 in
theorem am_kl_118_544 : ∀ k, k < 32 → am_chko cL_seen 8 (544 + k) (am_c118 (544 + k)) = true := by decide +kernel
set_option maxRecDepth 100000 in
theorem am_kl_118_576 : ∀ k, k < 32 → am_chko cL_seen 8 (576 + k) (am_c118 (576 + k)) = true := by decide +kernel
set_option maxRecDepth 100000 in
theorem am_kl_118_608 : ∀ k, k < 32 → am_chko cL_seen 8 (608 + k) (am_c118 (608 + k)) = true := by decide +kernel
set_option maxRecDepth 100000 in
theorem am_kl_118_640 : ∀ k, k < 32 → am_chko cL_seen 8 (640 + k) (am_c118 (640 + k)) = true := by decide +kernel
set_option maxRecDepth 100000 in
theorem am_kl_118_672 : ∀ k, k < 32 → am_chko cL_seen 8 (672 + k) (am_c118 (672 + k)) = true := by decide +kernel
set_option maxRecDepth 100000 in
theorem am_kl_118_704 : ∀ k, k < 32 → am_chko cL_seen 8 (704 + k) (am_c118 (704 + k)) = true := by decide +kernel
set_option maxRecDepth 100000 in
theorem am_kl_118_736 : ∀ k, k < 6 → am_chko cL_seen 8 (736 + k) (am_c118 (736 + k)) = true := by decide +kernel
theorem am_kl_118_all : ∀ pc, pc < 742 → am_chko cL_seen 8 pc (am_c118 pc) = true := by
  intro pc h
  by_cases h0 : pc < 32
  · have := am_kl_118_0 (pc - 0) (by omega)
    rwa [show 0 + (pc - 0) = pc by omega] at this
  by_cases h32 : pc < 64
  · have := am_kl_118_32 (pc - 32) (by omega)
    rwa [show 32 + (pc - 32) = pc by omega] at this
  by_cases h64 : pc < 96
  · have := am_kl_118_64 (pc - 64) (by omega)
    rwa [show 64 + (pc - 64) = pc by omega] at this
  by_cases h96 : pc < 128
  · have := am_kl_118_96 (pc - 96) (by omega)
    rwa [show 96 + (pc - 96) = pc by omega] at this
  by_cases h128 : pc < 160
  · have := am_kl_118_128 (pc - 128) (by omega)
    rwa [show 128 + (pc - 128) = pc by omega] at this
  by_cases h160 : pc < 192
  · have := am_kl_118_160 (pc - 160) (by omega)
    rwa [show 160 + (pc - 160) = pc by omega] at this
  by_cases h192 : pc < 224
  · have := am_kl_118_192 (pc - 192) (by omega)
    rwa [show 192 + (pc - 192) = pc by omega] at this
  by_cases h224 : pc < 256
  · have := am_kl_118_224 (pc - 224) (by omega)
    rwa [show 224 + (pc - 224) = pc by omega] at this
  by_cases h256 : pc < 288
  · have := am_kl_118_256 (pc - 256) (by omega)
    rwa [show 256 + (pc - 256) = pc by omega] at this
  by_cases h288 : pc < 320
  · have := am_kl_118_288 (pc - 288) (by omega)
    rwa [show 288 + (pc - 288) = pc by omega] at this
  by_cases h320 : pc < 352
  · have := am_kl_118_320 (pc - 320) (by omega)
    rwa [show 320 + (pc - 320) = pc by omega] at this
  by_cases h352 : pc < 384
  · have := am_kl_118_352 (pc - 352) (by omega)
    rwa [show 352 + (pc - 352) = pc by omega] at this
  by_cases h384 : pc < 416
  · have := am_kl_118_384 (pc - 384) (by omega)
    rwa [show 384 + (pc - 384) = pc by omega] at this
  by_cases h416 : pc < 448
  · have := am_kl_118_416 (pc - 416) (by omega)
    rwa [show 416 + (pc - 416) = pc by omega] at this
  by_cases h448 : pc < 480
  · have := am_kl_118_448 (pc - 448) (by omega)
    rwa [show 448 + (pc - 448) = pc by omega] at this
  by_cases h480 : pc < 512
  · have := am_kl_118_480 (pc - 480) (by omega)
    rwa [show 480 + (pc - 480) = pc by omega] at this
  by_cases h512 : pc < 544
  · have := am_kl_118_512 (pc - 512) (by omega)
    rwa [show 512 + (pc - 512) = pc by omega] at this
  by_cases h544 : pc < 576
  · have := am_kl_118_544 (pc - 544) (by omega)
    rwa [show 544 + (pc - 544) = pc by omega] at this
  by_cases h576 : pc < 608
  · have := am_kl_118_576 (pc - 576) (by omega)
    rwa [show 576 + (pc - 576) = pc by omega] at this
  by_cases h608 : pc < 640
  · have := am_kl_118_608 (pc - 608) (by omega)
    rwa [show 608 + (pc - 608) = pc by omega] at this
  by_cases h640 : pc < 672
  · have := am_kl_118_640 (pc - 640) (by omega)
    rwa [show 640 + (pc - 640) = pc by omega] at this
  by_cases h672 : pc < 704
  · have := am_kl_118_672 (pc - 672) (by omega)
    rwa [show 672 + (pc - 672) = pc by omega] at this
  by_cases h704 : pc < 736
  · have := am_kl_118_704 (pc - 704) (by omega)
    rwa [show 704 + (pc - 704) = pc by omega] at this
  by_cases h736 : pc < 742
  · have := am_kl_118_736 (pc - 736) (by omega)
    rwa [show 736 + (pc - 736) = pc by omega] at this
  · exact absurd h h736
theorem am_k_118 : ∀ pc e, am_c118 pc = some e → am_chk cL_seen 8 pc e = true := am_kall (N := 742) (fun _ => rfl) am_kl_118_all
set_option maxRecDepth 100000 in
theorem am_kl_119_0 : ∀ k, k < 32 → am_chko cL_lists 8 (0 + k) (am_c119 (0 + k)) = true := by decide +kernel
set_option maxRecDepth 100000 in
theorem am_kl_119_32 : ∀ k, k < 32 → am_chko cL_lists 8 (32 + k) (am_c119 (32 + k)) = true := by decide +kernel
set_option maxRecDepth 100000 in
theorem am_kl_119_64 : ∀ k, k < 32 → am_chko cL_lists 8 (64 + k) (am_c119 (64 + k)) = true := by decide +kernel
set_option maxRecDepth 100000 in
theorem am_kl_119_96 : ∀ k, k < 32 → am_chko cL_lists 8 (96 + k) (am_c119 (96 + k)) = true := by decide +kernel
set_option maxRecDepth 100000 in
theorem am_kl_119_128 : ∀ k, k < 32 → am_chko cL_lists 8 (128 + k) (am_c119 (128 + k)) = true := by decide +kernel
set_option maxRecDepth 100000 in
theorem am_kl_119_160 : ∀ k, k < 32 → am_chko cL_lists 8 (160 + k) (am_c119 (160 + k)) = true := by decide +kernel
set_option maxRecDepth 100000 in
theorem am_kl_119_192 : ∀ k, k < 32 → am_chko cL_lists 8 (192 + k) (am_c119 (192 + k)) = true := by decide +kernel
set_option maxRecDepth 100000 in
theorem am_kl_119_224 : ∀ k, k < 32 → am_chko cL_lists 8 (224 + k) (am_c119 (224 + k)) = true := by decide +kernel
set_option maxRecDepth 100000 in
theorem am_kl_119_256 : ∀ k, k < 32 → am_chko cL_lists 8 (256 + k) (am_c119 (256 + k)) = true := by decide +kernel
set_option maxRecDepth 100000 in
theorem am_kl_119_288 : ∀ k, k < 32 → am_chko cL_lists 8 (288 + k) (am_c119 (288 + k)) = true := by decide +kernel
set_option maxRecDepth 100000 in
theorem am_kl_119_320 : ∀ k, k < 32 → am_chko cL_lists 8 (320 + k) (am_c119 (320 + k)) = true := by decide +kernel
set_option maxRecDepth 100000 in
theorem am_kl_119_352 : ∀ k, k < 28 → am_chko cL_lists 8 (352 + k) (am_c119 (352 + k)) = true := by decide +kernel
theorem am_kl_119_all : ∀ pc, pc < 380 → am_chko cL_lists 8 pc (am_c119 pc) = true := by
  intro pc h
  by_cases h0 : pc < 32
  · have := am_kl_119_0 (pc - 0) (by omega)
    rwa [show 0 + (pc - 0) = pc by omega] at this
  by_cases h32 : pc < 64
  · have := am_kl_119_32 (pc - 32) (by omega)
    rwa [show 32 + (pc - 32) = pc by omega] at this
  by_cases h64 : pc < 96
  · have := am_kl_119_64 (pc - 64) (by omega)
    rwa [show 64 + (pc - 64) = pc by omega] at this
  by_cases h96 : pc < 128
  · have := am_kl_119_96 (pc - 96) (by omega)
    rwa [show 96 + (pc - 96) = pc by omega] at this
  by_cases h128 : pc < 160
  · have := am_kl_119_128 (pc - 128) (by omega)
    rwa [show 128 + (pc - 128) = pc by omega] at this
  by_cases h160 : pc < 192
  · have := am_kl_119_160 (pc - 160) (by omega)
    rwa [show 160 + (pc - 160) = pc by omega] at this
  by_cases h192 : pc < 224
  · have := am_kl_119_192 (pc - 192) (by omega)
    rwa [show 192 + (pc - 192) = pc by omega] at this
  by_cases h224 : pc < 256
  · have := am_kl_119_224 (pc - 224) (by omega)
    rwa [show 224 + (pc - 224) = pc by omega] at this
  by_cases h256 : pc < 288
  · have := am_kl_119_256 (pc - 256) (by omega)
    rwa [show 256 + (pc - 256) = pc by omega] at this
  by_cases h288 : pc < 320
  · have := am_kl_119_288 (pc - 288) (by omega)
    rwa [show 288 + (pc - 288) = pc by omega] at this
  by_cases h320 : pc < 352
  · have := am_kl_119_320 (pc - 320) (by omega)
    rwa [show 320 + (pc - 320) = pc by omega] at this
  by_cases h352 : pc < 380
  · have := am_kl_119_352 (pc - 352) (by omega)
    rwa [show 352 + (pc - 352) = pc by omega] at this
  · exact absurd h h352
theorem am_k_119 : ∀ pc e, am_c119 pc = some e → am_chk cL_lists 8 pc e = true := am_kall (N := 380) (fun _ => rfl) am_kl_119_all
set_option maxRecDepth 100000 in
theorem am_kl_120_0 : ∀ k, k < 32 → am_chko cL_shown 8 (0 + k) (am_c120 (0 + k)) = true := by decide +kernel
set_option maxRecDepth 100000 in
theorem am_kl_120_32 : ∀ k, k < 32 → am_chko cL_shown 8 (32 + k) (am_c120 (32 + k)) = true := by decide +kernel
set_option maxRecDepth 100000 in
theorem am_kl_120_64 : ∀ k, k < 32 → am_chko cL_shown 8 (64 + k) (am_c120 (64 + k)) = true := by decide +kernel
set_option maxRecDepth 100000 in
theorem am_kl_120_96 : ∀ k, k < 32 → am_chko cL_shown 8 (96 + k) (am_c120 (96 + k)) = true := by decide +kernel
set_option maxRecDepth 100000 in
theorem am_kl_120_128 : ∀ k, k < 32 → am_chko cL_shown 8 (128 + k) (am_c120 (128 + k)) = true := by decide +kernel
set_option maxRecDepth 100000 in
theorem am_kl_120_160 : ∀ k, k < 32 → am_chko cL_shown 8 (160 + k) (am_c120 (160 + k)) = true := by decide +kernel
set_option maxRecDepth 100000 in
theorem am_kl_120_192 : ∀ k, k < 32 → am_chko cL_shown 8 (192 + k) (am_c120 (192 + k)) = true := by decide +kernel
set_option maxRecDepth 100000 in
theorem am_kl_120_224 : ∀ k, k < 32 → am_chko cL_shown 8 (224 + k) (am_c120 (224 + k)) = true := by decide +kernel
set_option maxRecDepth 100000 in
theorem am_kl_120_256 : ∀ k, k < 32 → am_chko cL_shown 8 (256 + k) (am_c120 (256 + k)) = true := by decide +kernel
set_option maxRecDepth 100000 in
theorem am_kl_120_288 : ∀ k, k < 32 → am_chko cL_shown 8 (288 + k) (am_c120 (288 + k)) = true := by decide +kernel
set_option maxRecDepth 100000 in
theorem am_kl_120_320 : ∀ k, k < 12 → am_chko cL_shown 8 (320 + k) (am_c120 (320 + k)) = true := by decide +kernel
theorem am_kl_120_all : ∀ pc, pc < 332 → am_chko cL_shown 8 pc (am_c120 pc) = true := by
  intro pc h
  by_cases h0 : pc < 32
  · have := am_kl_120_0 (pc - 0) (by omega)
    rwa [show 0 + (pc - 0) = pc by omega] at this
  by_cases h32 : pc < 64
  · have := am_kl_120_32 (pc - 32) (by omega)
    rwa [show 32 + (pc - 32) = pc by omega] at this
  by_cases h64 : pc < 96
  · have := am_kl_120_64 (pc - 64) (by omega)
    rwa [show 64 + (pc - 64) = pc by omega] at this
  by_cases h96 : pc < 128
  · have := am_kl_120_96 (pc - 96) (by omega)
    rwa [show 96 + (pc - 96) = pc by omega] at this
  by_cases h128 : pc < 160
  · have := am_kl_120_128 (pc - 128) (by omega)
    rwa [show 128 + (pc - 128) = pc by omega] at this
  by_cases h160 : pc < 192
  · have := am_kl_120_160 (pc - 160) (by omega)
    rwa [show 160 + (pc - 160) = pc by omega] at this
  by_cases h192 : pc < 224
  · have := am_kl_120_192 (pc - 192) (by omega)
    rwa [show 192 + (pc - 192) = pc by omega] at this
  by_cases h224 : pc < 256
  · have := am_kl_120_224 (pc - 224) (by omega)
    rwa [show 224 + (pc - 224) = pc by omega] at this
  by_cases h256 : pc < 288
  · have := am_kl_120_256 (pc - 256) (by omega)
    rwa [show 256 + (pc - 256) = pc by omega] at this
  by_cases h288 : pc < 320
  · have := am_kl_120_288 (pc - 288) (by omega)
    rwa [show 288 + (pc - 288) = pc by omega] at this
  by_cases h320 : pc < 332
  · have := am_kl_120_320 (pc - 320) (by omega)
    rwa [show 320 + (pc - 320) = pc by omega] at this
  · exact absurd h h320
theorem am_k_120 : ∀ pc e, am_c120 pc = some e → am_chk cL_shown 8 pc e = true := am_kall (N := 332) (fun _ => rfl) am_kl_120_all
set_option maxRecDepth 100000 in
theorem am_kl_121_0 : ∀ k, k < 32 → am_chko cL_mark 8 (0 + k) (am_c121 (0 + k)) = true := by decide +kernel
set_option maxRecDepth 100000 in
theorem am_kl_121_32 : ∀ k, k < 32 → am_chko cL_mark 8 (32 + k) (am_c121 (32 + k)) = true := by decide +kernel
set_option maxRecDepth 100000 in
theorem am_kl_121_64 : ∀ k, k < 32 → am_chko cL_mark 8 (64 + k) (am_c121 (64 + k)) = true := by decide +kernel
set_option maxRecDepth 100000 in
theorem am_kl_121_96 : ∀ k, k < 32 → am_chko cL_mark 8 (96 + k) (am_c121 (96 + k)) = true := by decide +kernel
set_option maxRecDepth 100000 in
theorem am_kl_121_128 : ∀ k, k < 32 → am_chko cL_mark 8 (128 + k) (am_c121 (128 + k)) = true := by decide +kernel
set_option maxRecDepth 100000 in
theorem am_kl_121_160 : ∀ k, k < 32 → am_chko cL_mark 8 (160 + k) (am_c121 (160 + k)) = true := by decide +kernel
set_option maxRecDepth 100000 in
theorem am_kl_121_192 : ∀ k, k < 4 → am_chko cL_mark 8 (192 + k) (am_c121 (192 + k)) = true := by decide +kernel
theorem am_kl_121_all : ∀ pc, pc < 196 → am_chko cL_mark 8 pc (am_c121 pc) = true := by
  intro pc h
  by_cases h0 : pc < 32
  · have := am_kl_121_0 (pc - 0) (by omega)
    rwa [show 0 + (pc - 0) = pc by omega] at this
  by_cases h32 : pc < 64
  · have := am_kl_121_32 (pc - 32) (by omega)
    rwa [show 32 + (pc - 32) = pc by omega] at this
  by_cases h64 : pc < 96
  · have := am_kl_121_64 (pc - 64) (by omega)
    rwa [show 64 + (pc - 64) = pc by omega] at this
  by_cases h96 : pc < 128
  · have := am_kl_121_96 (pc - 96) (by omega)
    rwa [show 96 + (pc - 96) = pc by omega] at this
  by_cases h128 : pc < 160
  · have := am_kl_121_128 (pc - 128) (by omega)
    rwa [show 128 + (pc - 128) = pc by omega] at this
  by_cases h160 : pc < 192
  · have := am_kl_121_160 (pc - 160) (by omega)
    rwa [show 160 + (pc - 160) = pc by omega] at this
  by_cases h192 : pc < 196
  · have := am_kl_121_192 (pc - 192) (by omega)
    rwa [show 192 + (pc - 192) = pc by omega] at this
  · exact absurd h h192
theorem am_k_121 : ∀ pc e, am_c121 pc = some e → am_chk cL_mark 8 pc e = true := am_kall (N := 196) (fun _ => rfl) am_kl_121_all
set_option maxRecDepth 100000 in
theorem am_kl_122_0 : ∀ k, k < 32 → am_chko cL_back 8 (0 + k) (am_c122 (0 + k)) = true := by decide +kernel
set_option maxRecDepth 100000 in
theorem am_kl_122_32 : ∀ k, k < 32 → am_chko cL_back 8 (32 + k) (am_c122 (32 + k)) = true := by decide +kernel
set_option maxRecDepth 100000 in
theorem am_kl_122_64 : ∀ k, k < 32 → am_chko cL_back 8 (64 + k) (am_c122 (64 + k)) = true := by decide +kernel
set_option maxRecDepth 100000 in
theorem am_kl_122_96 : ∀ k, k < 32 → am_chko cL_back 8 (96 + k) (am_c122 (96 + k)) = true := by decide +kernel
set_option maxRecDepth 100000 in
theorem am_kl_122_128 : ∀ k, k < 32 → am_chko cL_back 8 (128 + k) (am_c122 (128 + k)) = true := by decide +kernel
set_option maxRecDepth 100000 in
theorem am_kl_122_160 : ∀ k, k < 32 → am_chko cL_back 8 (160 + k) (am_c122 (160 + k)) = true := by decide +kernel
set_option maxRecDepth 100000 in
theorem am_kl_122_192 : ∀ k, k < 32 → am_chko cL_back 8 (192 + k) (am_c122 (192 + k)) = true := by decide +kernel
set_option maxRecDepth 100000 in
theorem am_kl_122_224 : ∀ k, k < 29 → am_chko cL_back 8 (224 + k) (am_c122 (224 + k)) = true := by decide +kernel
theorem am_kl_122_all : ∀ pc, pc < 253 → am_chko cL_back 8 pc (am_c122 pc) = true := by
  intro pc h
  by_cases h0 : pc < 32
  · have := am_kl_122_0 (pc - 0) (by omega)
    rwa [show 0 + (pc - 0) = pc by omega] at this
  by_cases h32 : pc < 64
  · have := am_kl_122_32 (pc - 32) (by omega)
    rwa [show 32 + (pc - 32) = pc by omega] at this
  by_cases h64 : pc < 96
  · have := am_kl_122_64 (pc - 64) (by omega)
    rwa [show 64 + (pc - 64) = pc by omega] at this
  by_cases h96 : pc < 128
  · have := am_kl_122_96 (pc - 96) (by omega)
    rwa [show 96 + (pc - 96) = pc by omega] at this
  by_cases h128 : pc < 160
  · have := am_kl_122_128 (pc - 128) (by omega)
    rwa [show 128 + (pc - 128) = pc by omega] at this
  by_cases h160 : pc < 192
  · have := am_kl_122_160 (pc - 160) (by omega)
    rwa [show 160 + (pc - 160) = pc by omega] at this
  by_cases h192 : pc < 224
  · have := am_kl_122_192 (pc - 192) (by omega)
    rwa [show 192 + (pc - 192) = pc by omega] at this
  by_cases h224 : pc < 253
  · have := am_kl_122_224 (pc - 224) (by omega)
    rwa [show 224 + (pc - 224) = pc by omega] at this
  · exact absurd h h224
theorem am_k_122 : ∀ pc e, am_c122 pc = some e → am_chk cL_back 8 pc e = true := am_kall (N := 253) (fun _ => rfl) am_kl_122_all
set_option maxRecDepth 100000 in
theorem am_kl_123_0 : ∀ k, k < 32 → am_chko cL_law 8 (0 + k) (am_c123 (0 + k)) = true := by decide +kernel
set_option maxRecDepth 100000 in
theorem am_kl_123_32 : ∀ k, k < 32 → am_chko cL_law 8 (32 + k) (am_c123 (32 + k)) = true := by decide +kernel
set_option maxRecDepth 100000 in
theorem am_kl_123_64 : ∀ k, k < 32 → am_chko cL_law 8 (64 + k) (am_c123 (64 + k)) = true := by decide +kernel
set_option maxRecDepth 100000 in
theorem am_kl_123_96 : ∀ k, k < 32 → am_chko cL_law 8 (96 + k) (am_c123 (96 + k)) = true := by decide +kernel
set_option maxRecDepth 100000 in
theorem am_kl_123_128 : ∀ k, k < 32 → am_chko cL_law 8 (128 + k) (am_c123 (128 + k)) = true := by decide +kernel
set_option maxRecDepth 100000 in
theorem am_kl_123_160 : ∀ k, k < 32 → am_chko cL_law 8 (160 + k) (am_c123 (160 + k)) = true := by decide +kernel
set_option maxRecDepth 100000 in
theorem am_kl_123_192 : ∀ k, k < 32 → am_chko cL_law 8 (192 + k) (am_c123 (192 + k)) = true := by decide +kernel
set_option maxRecDepth 100000 in
theorem am_kl_123_224 : ∀ k, k < 32 → am_chko cL_law 8 (224 + k) (am_c123 (224 + k)) = true := by decide +kernel
set_option maxRecDepth 100000 in
theorem am_kl_123_256 : ∀ k, k < 20 → am_chko cL_law 8 (256 + k) (am_c123 (256 + k)) = true := by decide +kernel
theorem am_kl_123_all : ∀ pc, pc < 276 → am_chko cL_law 8 pc (am_c123 pc) = true := by
  intro pc h
  by_cases h0 : pc < 32
  · have := am_kl_123_0 (pc - 0) (by omega)
    rwa [show 0 + (pc - 0) = pc by omega] at this
  by_cases h32 : pc < 64
  · have := am_kl_123_32 (pc - 32) (by omega)
    rwa [show 32 + (pc - 32) = pc by omega] at this
  by_cases h64 : pc < 96
  · have := am_kl_123_64 (pc - 64) (by omega)
    rwa [show 64 + (pc - 64) = pc by omega] at this
  by_cases h96 : pc < 128
  · have := am_kl_123_96 (pc - 96) (by omega)
    rwa [show 96 + (pc - 96) = pc by omega] at this
  by_cases h128 : pc < 160
  · have := am_kl_123_128 (pc - 128) (by omega)
    rwa [show 128 + (pc - 128) = pc by omega] at this
  by_cases h160 : pc < 192
  · have := am_kl_123_160 (pc - 160) (by omega)
    rwa [show 160 + (pc - 160) = pc by omega] at this
  by_cases h192 : pc < 224
  · have := am_kl_123_192 (pc - 192) (by omega)
    rwa [show 192 + (pc - 192) = pc by omega] at this
  by_cases h224 : pc < 256
  · have := am_kl_123_224 (pc - 224) (by omega)
    rwa [show 224 + (pc - 224) = pc by omega] at this
  by_cases h256 : pc < 276
  · have := am_kl_123_256 (pc - 256) (by omega)
    rwa [show 256 + (pc - 256) = pc by omega] at this
  · exact absurd h h256
theorem am_k_123 : ∀ pc e, am_c123 pc = some e → am_chk cL_law 8 pc e = true := am_kall (N := 276) (fun _ => rfl) am_kl_123_all
theorem am_all_L : ∀ r ∈ (am_all.drop 112).take 12, am_rok r := List.forall_mem_cons.mpr ⟨am_k_112, List.forall_mem_cons.mpr ⟨am_k_113, List.forall_mem_cons.mpr ⟨am_k_114, List.forall_mem_cons.mpr ⟨am_k_115, List.forall_mem_cons.mpr ⟨am_k_116, List.forall_mem_cons.mpr ⟨am_k_117, List.forall_mem_cons.mpr ⟨am_k_118, List.forall_mem_cons.mpr ⟨am_k_119, List.forall_mem_cons.mpr ⟨am_k_120, List.forall_mem_cons.mpr ⟨am_k_121, List.forall_mem_cons.mpr ⟨am_k_122, List.forall_mem_cons.mpr ⟨am_k_123, fun _ h => absurd h List.not_mem_nil⟩⟩⟩⟩⟩⟩⟩⟩⟩⟩⟩⟩
