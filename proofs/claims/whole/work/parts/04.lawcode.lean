/-! the code of the law is what the tables say: 32 places at a time -/
set_option maxRecDepth 100000 in
theorem am_kl_0 : ∀ k, k < 32 → am_chko cL_law 8 (0 + k) (am_c201 (0 + k)) = true := by decide +kernel
set_option maxRecDepth 100000 in
theorem am_kl_32 : ∀ k, k < 32 → am_chko cL_law 8 (32 + k) (am_c201 (32 + k)) = true := by decide +kernel
set_option maxRecDepth 100000 in
theorem am_kl_64 : ∀ k, k < 32 → am_chko cL_law 8 (64 + k) (am_c201 (64 + k)) = true := by decide +kernel
set_option maxRecDepth 100000 in
theorem am_kl_96 : ∀ k, k < 32 → am_chko cL_law 8 (96 + k) (am_c201 (96 + k)) = true := by decide +kernel
set_option maxRecDepth 100000 in
theorem am_kl_128 : ∀ k, k < 32 → am_chko cL_law 8 (128 + k) (am_c201 (128 + k)) = true := by decide +kernel
set_option maxRecDepth 100000 in
theorem am_kl_160 : ∀ k, k < 32 → am_chko cL_law 8 (160 + k) (am_c201 (160 + k)) = true := by decide +kernel
set_option maxRecDepth 100000 in
theorem am_kl_192 : ∀ k, k < 32 → am_chko cL_law 8 (192 + k) (am_c201 (192 + k)) = true := by decide +kernel
set_option maxRecDepth 100000 in
theorem am_kl_224 : ∀ k, k < 32 → am_chko cL_law 8 (224 + k) (am_c201 (224 + k)) = true := by decide +kernel
set_option maxRecDepth 100000 in
theorem am_kl_256 : ∀ k, k < 32 → am_chko cL_law 8 (256 + k) (am_c201 (256 + k)) = true := by decide +kernel
set_option maxRecDepth 100000 in
theorem am_kl_288 : ∀ k, k < 32 → am_chko cL_law 8 (288 + k) (am_c201 (288 + k)) = true := by decide +kernel
set_option maxRecDepth 100000 in
theorem am_kl_320 : ∀ k, k < 32 → am_chko cL_law 8 (320 + k) (am_c201 (320 + k)) = true := by decide +kernel
set_option maxRecDepth 100000 in
theorem am_kl_352 : ∀ k, k < 32 → am_chko cL_law 8 (352 + k) (am_c201 (352 + k)) = true := by decide +kernel
set_option maxRecDepth 100000 in
theorem am_kl_384 : ∀ k, k < 32 → am_chko cL_law 8 (384 + k) (am_c201 (384 + k)) = true := by decide +kernel
set_option maxRecDepth 100000 in
theorem am_kl_416 : ∀ k, k < 32 → am_chko cL_law 8 (416 + k) (am_c201 (416 + k)) = true := by decide +kernel
set_option maxRecDepth 100000 in
theorem am_kl_448 : ∀ k, k < 32 → am_chko cL_law 8 (448 + k) (am_c201 (448 + k)) = true := by decide +kernel
set_option maxRecDepth 100000 in
theorem am_kl_480 : ∀ k, k < 32 → am_chko cL_law 8 (480 + k) (am_c201 (480 + k)) = true := by decide +kernel
set_option maxRecDepth 100000 in
theorem am_kl_512 : ∀ k, k < 32 → am_chko cL_law 8 (512 + k) (am_c201 (512 + k)) = true := by decide +kernel
set_option maxRecDepth 100000 in
theorem am_kl_544 : ∀ k, k < 32 → am_chko cL_law 8 (544 + k) (am_c201 (544 + k)) = true := by decide +kernel
set_option maxRecDepth 100000 in
theorem am_kl_576 : ∀ k, k < 32 → am_chko cL_law 8 (576 + k) (am_c201 (576 + k)) = true := by decide +kernel
set_option maxRecDepth 100000 in
theorem am_kl_608 : ∀ k, k < 32 → am_chko cL_law 8 (608 + k) (am_c201 (608 + k)) = true := by decide +kernel
set_option maxRecDepth 100000 in
theorem am_kl_640 : ∀ k, k < 32 → am_chko cL_law 8 (640 + k) (am_c201 (640 + k)) = true := by decide +kernel
set_option maxRecDepth 100000 in
theorem am_kl_672 : ∀ k, k < 32 → am_chko cL_law 8 (672 + k) (am_c201 (672 + k)) = true := by decide +kernel
set_option maxRecDepth 100000 in
theorem am_kl_704 : ∀ k, k < 32 → am_chko cL_law 8 (704 + k) (am_c201 (704 + k)) = true := by decide +kernel
set_option maxRecDepth 100000 in
theorem am_kl_736 : ∀ k, k < 32 → am_chko cL_law 8 (736 + k) (am_c201 (736 + k)) = true := by decide +kernel
set_option maxRecDepth 100000 in
theorem am_kl_768 : ∀ k, k < 32 → am_chko cL_law 8 (768 + k) (am_c201 (768 + k)) = true := by decide +kernel
set_option maxRecDepth 100000 in
theorem am_kl_800 : ∀ k, k < 32 → am_chko cL_law 8 (800 + k) (am_c201 (800 + k)) = true := by decide +kernel
set_option maxRecDepth 100000 in
theorem am_kl_832 : ∀ k, k < 32 → am_chko cL_law 8 (832 + k) (am_c201 (832 + k)) = true := by decide +kernel
set_option maxRecDepth 100000 in
theorem am_kl_864 : ∀ k, k < 32 → am_chko cL_law 8 (864 + k) (am_c201 (864 + k)) = true := by decide +kernel
set_option maxRecDepth 100000 in
theorem am_kl_896 : ∀ k, k < 32 → am_chko cL_law 8 (896 + k) (am_c201 (896 + k)) = true := by decide +kernel
set_option maxRecDepth 100000 in
theorem am_kl_928 : ∀ k, k < 32 → am_chko cL_law 8 (928 + k) (am_c201 (928 + k)) = true := by decide +kernel
set_option maxRecDepth 100000 in
theorem am_kl_960 : ∀ k, k < 32 → am_chko cL_law 8 (960 + k) (am_c201 (960 + k)) = true := by decide +kernel
set_option maxRecDepth 100000 in
theorem am_kl_992 : ∀ k, k < 32 → am_chko cL_law 8 (992 + k) (am_c201 (992 + k)) = true := by decide +kernel
set_option maxRecDepth 100000 in
theorem am_kl_1024 : ∀ k, k < 32 → am_chko cL_law 8 (1024 + k) (am_c201 (1024 + k)) = true := by decide +kernel
set_option maxRecDepth 100000 in
theorem am_kl_1056 : ∀ k, k < 32 → am_chko cL_law 8 (1056 + k) (am_c201 (1056 + k)) = true := by decide +kernel
set_option maxRecDepth 100000 in
theorem am_kl_1088 : ∀ k, k < 32 → am_chko cL_law 8 (1088 + k) (am_c201 (1088 + k)) = true := by decide +kernel
set_option maxRecDepth 100000 in
theorem am_kl_1120 : ∀ k, k < 32 → am_chko cL_law 8 (1120 + k) (am_c201 (1120 + k)) = true := by decide +kernel
set_option maxRecDepth 100000 in
theorem am_kl_1152 : ∀ k, k < 32 → am_chko cL_law 8 (1152 + k) (am_c201 (1152 + k)) = true := by decide +kernel
set_option maxRecDepth 100000 in
theorem am_kl_1184 : ∀ k, k < 32 → am_chko cL_law 8 (1184 + k) (am_c201 (1184 + k)) = true := by decide +kernel
set_option maxRecDepth 100000 in
theorem am_kl_1216 : ∀ k, k < 16 → am_chko cL_law 8 (1216 + k) (am_c201 (1216 + k)) = true := by decide +kernel
theorem am_kl_all : ∀ pc, pc < 1232 → am_chko cL_law 8 pc (am_c201 pc) = true := by
  intro pc h
  by_cases h0 : pc < 32
  · have := am_kl_0 (pc - 0) (by omega)
    rwa [show 0 + (pc - 0) = pc by omega] at this
  by_cases h32 : pc < 64
  · have := am_kl_32 (pc - 32) (by omega)
    rwa [show 32 + (pc - 32) = pc by omega] at this
  by_cases h64 : pc < 96
  · have := am_kl_64 (pc - 64) (by omega)
    rwa [show 64 + (pc - 64) = pc by omega] at this
  by_cases h96 : pc < 128
  · have := am_kl_96 (pc - 96) (by omega)
    rwa [show 96 + (pc - 96) = pc by omega] at this
  by_cases h128 : pc < 160
  · have := am_kl_128 (pc - 128) (by omega)
    rwa [show 128 + (pc - 128) = pc by omega] at this
  by_cases h160 : pc < 192
  · have := am_kl_160 (pc - 160) (by omega)
    rwa [show 160 + (pc - 160) = pc by omega] at this
  by_cases h192 : pc < 224
  · have := am_kl_192 (pc - 192) (by omega)
    rwa [show 192 + (pc - 192) = pc by omega] at this
  by_cases h224 : pc < 256
  · have := am_kl_224 (pc - 224) (by omega)
    rwa [show 224 + (pc - 224) = pc by omega] at this
  by_cases h256 : pc < 288
  · have := am_kl_256 (pc - 256) (by omega)
    rwa [show 256 + (pc - 256) = pc by omega] at this
  by_cases h288 : pc < 320
  · have := am_kl_288 (pc - 288) (by omega)
    rwa [show 288 + (pc - 288) = pc by omega] at this
  by_cases h320 : pc < 352
  · have := am_kl_320 (pc - 320) (by omega)
    rwa [show 320 + (pc - 320) = pc by omega] at this
  by_cases h352 : pc < 384
  · have := am_kl_352 (pc - 352) (by omega)
    rwa [show 352 + (pc - 352) = pc by omega] at this
  by_cases h384 : pc < 416
  · have := am_kl_384 (pc - 384) (by omega)
    rwa [show 384 + (pc - 384) = pc by omega] at this
  by_cases h416 : pc < 448
  · have := am_kl_416 (pc - 416) (by omega)
    rwa [show 416 + (pc - 416) = pc by omega] at this
  by_cases h448 : pc < 480
  · have := am_kl_448 (pc - 448) (by omega)
    rwa [show 448 + (pc - 448) = pc by omega] at this
  by_cases h480 : pc < 512
  · have := am_kl_480 (pc - 480) (by omega)
    rwa [show 480 + (pc - 480) = pc by omega] at this
  by_cases h512 : pc < 544
  · have := am_kl_512 (pc - 512) (by omega)
    rwa [show 512 + (pc - 512) = pc by omega] at this
  by_cases h544 : pc < 576
  · have := am_kl_544 (pc - 544) (by omega)
    rwa [show 544 + (pc - 544) = pc by omega] at this
  by_cases h576 : pc < 608
  · have := am_kl_576 (pc - 576) (by omega)
    rwa [show 576 + (pc - 576) = pc by omega] at this
  by_cases h608 : pc < 640
  · have := am_kl_608 (pc - 608) (by omega)
    rwa [show 608 + (pc - 608) = pc by omega] at this
  by_cases h640 : pc < 672
  · have := am_kl_640 (pc - 640) (by omega)
    rwa [show 640 + (pc - 640) = pc by omega] at this
  by_cases h672 : pc < 704
  · have := am_kl_672 (pc - 672) (by omega)
    rwa [show 672 + (pc - 672) = pc by omega] at this
  by_cases h704 : pc < 736
  · have := am_kl_704 (pc - 704) (by omega)
    rwa [show 704 + (pc - 704) = pc by omega] at this
  by_cases h736 : pc < 768
  · have := am_kl_736 (pc - 736) (by omega)
    rwa [show 736 + (pc - 736) = pc by omega] at this
  by_cases h768 : pc < 800
  · have := am_kl_768 (pc - 768) (by omega)
    rwa [show 768 + (pc - 768) = pc by omega] at this
  by_cases h800 : pc < 832
  · have := am_kl_800 (pc - 800) (by omega)
    rwa [show 800 + (pc - 800) = pc by omega] at this
  by_cases h832 : pc < 864
  · have := am_kl_832 (pc - 832) (by omega)
    rwa [show 832 + (pc - 832) = pc by omega] at this
  by_cases h864 : pc < 896
  · have := am_kl_864 (pc - 864) (by omega)
    rwa [show 864 + (pc - 864) = pc by omega] at this
  by_cases h896 : pc < 928
  · have := am_kl_896 (pc - 896) (by omega)
    rwa [show 896 + (pc - 896) = pc by omega] at this
  by_cases h928 : pc < 960
  · have := am_kl_928 (pc - 928) (by omega)
    rwa [show 928 + (pc - 928) = pc by omega] at this
  by_cases h960 : pc < 992
  · have := am_kl_960 (pc - 960) (by omega)
    rwa [show 960 + (pc - 960) = pc by omega] at this
  by_cases h992 : pc < 1024
  · have := am_kl_992 (pc - 992) (by omega)
    rwa [show 992 + (pc - 992) = pc by omega] at this
  by_cases h1024 : pc < 1056
  · have := am_kl_1024 (pc - 1024) (by omega)
    rwa [show 1024 + (pc - 1024) = pc by omega] at this
  by_cases h1056 : pc < 1088
  · have := am_kl_1056 (pc - 1056) (by omega)
    rwa [show 1056 + (pc - 1056) = pc by omega] at this
  by_cases h1088 : pc < 1120
  · have := am_kl_1088 (pc - 1088) (by omega)
    rwa [show 1088 + (pc - 1088) = pc by omega] at this
  by_cases h1120 : pc < 1152
  · have := am_kl_1120 (pc - 1120) (by omega)
    rwa [show 1120 + (pc - 1120) = pc by omega] at this
  by_cases h1152 : pc < 1184
  · have := am_kl_1152 (pc - 1152) (by omega)
    rwa [show 1152 + (pc - 1152) = pc by omega] at this
  by_cases h1184 : pc < 1216
  · have := am_kl_1184 (pc - 1184) (by omega)
    rwa [show 1184 + (pc - 1184) = pc by omega] at this
  by_cases h1216 : pc < 1232
  · have := am_kl_1216 (pc - 1216) (by omega)
    rwa [show 1216 + (pc - 1216) = pc by omega] at this
  · exact absurd h h1216
theorem am_k_201 : ∀ pc e, am_c201 pc = some e → am_chk cL_law 8 pc e = true := am_kall (N := 1232) (fun _ => rfl) am_kl_all
theorem am_all_L : ∀ r ∈ (am_all.drop 201).take 1, am_rok r := List.forall_mem_cons.mpr ⟨am_k_201, fun _ h => absurd h List.not_mem_nil⟩
