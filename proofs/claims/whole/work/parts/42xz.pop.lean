/-! how many bits the small numbers have -/
theorem gz_pop0 : ∀ a, a < 2 → ∀ b, b < 256 → gzBc (Int32.ofNat (0 + 256 * a + b)) = Int32.ofNat (gzQn (fun j => (0 + 256 * a + b).testBit j) 0 15) := by decide +kernel
theorem gz_pop1 : ∀ a, a < 2 → ∀ b, b < 256 → gzBc (Int32.ofNat (512 + 256 * a + b)) = Int32.ofNat (gzQn (fun j => (512 + 256 * a + b).testBit j) 0 15) := by decide +kernel
theorem gz_pop2 : ∀ a, a < 2 → ∀ b, b < 256 → gzBc (Int32.ofNat (1024 + 256 * a + b)) = Int32.ofNat (gzQn (fun j => (1024 + 256 * a + b).testBit j) 0 15) := by decide +kernel
theorem gz_pop3 : ∀ a, a < 2 → ∀ b, b < 256 → gzBc (Int32.ofNat (1536 + 256 * a + b)) = Int32.ofNat (gzQn (fun j => (1536 + 256 * a + b).testBit j) 0 15) := by decide +kernel
theorem gz_pop4 : ∀ a, a < 2 → ∀ b, b < 256 → gzBc (Int32.ofNat (2048 + 256 * a + b)) = Int32.ofNat (gzQn (fun j => (2048 + 256 * a + b).testBit j) 0 15) := by decide +kernel
theorem gz_pop5 : ∀ a, a < 2 → ∀ b, b < 256 → gzBc (Int32.ofNat (2560 + 256 * a + b)) = Int32.ofNat (gzQn (fun j => (2560 + 256 * a + b).testBit j) 0 15) := by decide +kernel
theorem gz_pop6 : ∀ a, a < 2 → ∀ b, b < 256 → gzBc (Int32.ofNat (3072 + 256 * a + b)) = Int32.ofNat (gzQn (fun j => (3072 + 256 * a + b).testBit j) 0 15) := by decide +kernel
theorem gz_pop7 : ∀ a, a < 2 → ∀ b, b < 256 → gzBc (Int32.ofNat (3584 + 256 * a + b)) = Int32.ofNat (gzQn (fun j => (3584 + 256 * a + b).testBit j) 0 15) := by decide +kernel
theorem gz_pop8 : ∀ a, a < 2 → ∀ b, b < 256 → gzBc (Int32.ofNat (4096 + 256 * a + b)) = Int32.ofNat (gzQn (fun j => (4096 + 256 * a + b).testBit j) 0 15) := by decide +kernel
theorem gz_pop9 : ∀ a, a < 2 → ∀ b, b < 256 → gzBc (Int32.ofNat (4608 + 256 * a + b)) = Int32.ofNat (gzQn (fun j => (4608 + 256 * a + b).testBit j) 0 15) := by decide +kernel
theorem gz_pop10 : ∀ a, a < 2 → ∀ b, b < 256 → gzBc (Int32.ofNat (5120 + 256 * a + b)) = Int32.ofNat (gzQn (fun j => (5120 + 256 * a + b).testBit j) 0 15) := by decide +kernel
theorem gz_pop11 : ∀ a, a < 2 → ∀ b, b < 256 → gzBc (Int32.ofNat (5632 + 256 * a + b)) = Int32.ofNat (gzQn (fun j => (5632 + 256 * a + b).testBit j) 0 15) := by decide +kernel
theorem gz_pop12 : ∀ a, a < 2 → ∀ b, b < 256 → gzBc (Int32.ofNat (6144 + 256 * a + b)) = Int32.ofNat (gzQn (fun j => (6144 + 256 * a + b).testBit j) 0 15) := by decide +kernel
theorem gz_pop13 : ∀ a, a < 2 → ∀ b, b < 256 → gzBc (Int32.ofNat (6656 + 256 * a + b)) = Int32.ofNat (gzQn (fun j => (6656 + 256 * a + b).testBit j) 0 15) := by decide +kernel
theorem gz_pop14 : ∀ a, a < 2 → ∀ b, b < 256 → gzBc (Int32.ofNat (7168 + 256 * a + b)) = Int32.ofNat (gzQn (fun j => (7168 + 256 * a + b).testBit j) 0 15) := by decide +kernel
theorem gz_pop15 : ∀ a, a < 2 → ∀ b, b < 256 → gzBc (Int32.ofNat (7680 + 256 * a + b)) = Int32.ofNat (gzQn (fun j => (7680 + 256 * a + b).testBit j) 0 15) := by decide +kernel
theorem gz_pop16 : ∀ a, a < 2 → ∀ b, b < 256 → gzBc (Int32.ofNat (8192 + 256 * a + b)) = Int32.ofNat (gzQn (fun j => (8192 + 256 * a + b).testBit j) 0 15) := by decide +kernel
theorem gz_pop17 : ∀ a, a < 2 → ∀ b, b < 256 → gzBc (Int32.ofNat (8704 + 256 * a + b)) = Int32.ofNat (gzQn (fun j => (8704 + 256 * a + b).testBit j) 0 15) := by decide +kernel
theorem gz_pop18 : ∀ a, a < 2 → ∀ b, b < 256 → gzBc (Int32.ofNat (9216 + 256 * a + b)) = Int32.ofNat (gzQn (fun j => (9216 + 256 * a + b).testBit j) 0 15) := by decide +kernel
theorem gz_pop19 : ∀ a, a < 2 → ∀ b, b < 256 → gzBc (Int32.ofNat (9728 + 256 * a + b)) = Int32.ofNat (gzQn (fun j => (9728 + 256 * a + b).testBit j) 0 15) := by decide +kernel
theorem gz_pop20 : ∀ a, a < 2 → ∀ b, b < 256 → gzBc (Int32.ofNat (10240 + 256 * a + b)) = Int32.ofNat (gzQn (fun j => (10240 + 256 * a + b).testBit j) 0 15) := by decide +kernel
theorem gz_pop21 : ∀ a, a < 2 → ∀ b, b < 256 → gzBc (Int32.ofNat (10752 + 256 * a + b)) = Int32.ofNat (gzQn (fun j => (10752 + 256 * a + b).testBit j) 0 15) := by decide +kernel
theorem gz_pop22 : ∀ a, a < 2 → ∀ b, b < 256 → gzBc (Int32.ofNat (11264 + 256 * a + b)) = Int32.ofNat (gzQn (fun j => (11264 + 256 * a + b).testBit j) 0 15) := by decide +kernel
theorem gz_pop23 : ∀ a, a < 2 → ∀ b, b < 256 → gzBc (Int32.ofNat (11776 + 256 * a + b)) = Int32.ofNat (gzQn (fun j => (11776 + 256 * a + b).testBit j) 0 15) := by decide +kernel
theorem gz_pop24 : ∀ a, a < 2 → ∀ b, b < 256 → gzBc (Int32.ofNat (12288 + 256 * a + b)) = Int32.ofNat (gzQn (fun j => (12288 + 256 * a + b).testBit j) 0 15) := by decide +kernel
theorem gz_pop25 : ∀ a, a < 2 → ∀ b, b < 256 → gzBc (Int32.ofNat (12800 + 256 * a + b)) = Int32.ofNat (gzQn (fun j => (12800 + 256 * a + b).testBit j) 0 15) := by decide +kernel
theorem gz_pop26 : ∀ a, a < 2 → ∀ b, b < 256 → gzBc (Int32.ofNat (13312 + 256 * a + b)) = Int32.ofNat (gzQn (fun j => (13312 + 256 * a + b).testBit j) 0 15) := by decide +kernel
theorem gz_pop27 : ∀ a, a < 2 → ∀ b, b < 256 → gzBc (Int32.ofNat (13824 + 256 * a + b)) = Int32.ofNat (gzQn (fun j => (13824 + 256 * a + b).testBit j) 0 15) := by decide +kernel
theorem gz_pop28 : ∀ a, a < 2 → ∀ b, b < 256 → gzBc (Int32.ofNat (14336 + 256 * a + b)) = Int32.ofNat (gzQn (fun j => (14336 + 256 * a + b).testBit j) 0 15) := by decide +kernel
theorem gz_pop29 : ∀ a, a < 2 → ∀ b, b < 256 → gzBc (Int32.ofNat (14848 + 256 * a + b)) = Int32.ofNat (gzQn (fun j => (14848 + 256 * a + b).testBit j) 0 15) := by decide +kernel
theorem gz_pop30 : ∀ a, a < 2 → ∀ b, b < 256 → gzBc (Int32.ofNat (15360 + 256 * a + b)) = Int32.ofNat (gzQn (fun j => (15360 + 256 * a + b).testBit j) 0 15) := by decide +kernel
theorem gz_pop31 : ∀ a, a < 2 → ∀ b, b < 256 → gzBc (Int32.ofNat (15872 + 256 * a + b)) = Int32.ofNat (gzQn (fun j => (15872 + 256 * a + b).testBit j) 0 15) := by decide +kernel
theorem gz_pop32 : ∀ a, a < 2 → ∀ b, b < 256 → gzBc (Int32.ofNat (16384 + 256 * a + b)) = Int32.ofNat (gzQn (fun j => (16384 + 256 * a + b).testBit j) 0 15) := by decide +kernel
theorem gz_pop33 : ∀ a, a < 2 → ∀ b, b < 256 → gzBc (Int32.ofNat (16896 + 256 * a + b)) = Int32.ofNat (gzQn (fun j => (16896 + 256 * a + b).testBit j) 0 15) := by decide +kernel
theorem gz_pop34 : ∀ a, a < 2 → ∀ b, b < 256 → gzBc (Int32.ofNat (17408 + 256 * a + b)) = Int32.ofNat (gzQn (fun j => (17408 + 256 * a + b).testBit j) 0 15) := by decide +kernel
theorem gz_pop35 : ∀ a, a < 2 → ∀ b, b < 256 → gzBc (Int32.ofNat (17920 + 256 * a + b)) = Int32.ofNat (gzQn (fun j => (17920 + 256 * a + b).testBit j) 0 15) := by decide +kernel
theorem gz_pop36 : ∀ a, a < 2 → ∀ b, b < 256 → gzBc (Int32.ofNat (18432 + 256 * a + b)) = Int32.ofNat (gzQn (fun j => (18432 + 256 * a + b).testBit j) 0 15) := by decide +kernel
theorem gz_pop37 : ∀ a, a < 2 → ∀ b, b < 256 → gzBc (Int32.ofNat (18944 + 256 * a + b)) = Int32.ofNat (gzQn (fun j => (18944 + 256 * a + b).testBit j) 0 15) := by decide +kernel
theorem gz_pop38 : ∀ a, a < 2 → ∀ b, b < 256 → gzBc (Int32.ofNat (19456 + 256 * a + b)) = Int32.ofNat (gzQn (fun j => (19456 + 256 * a + b).testBit j) 0 15) := by decide +kernel
theorem gz_pop39 : ∀ a, a < 2 → ∀ b, b < 256 → gzBc (Int32.ofNat (19968 + 256 * a + b)) = Int32.ofNat (gzQn (fun j => (19968 + 256 * a + b).testBit j) 0 15) := by decide +kernel
theorem gz_pop40 : ∀ a, a < 2 → ∀ b, b < 256 → gzBc (Int32.ofNat (20480 + 256 * a + b)) = Int32.ofNat (gzQn (fun j => (20480 + 256 * a + b).testBit j) 0 15) := by decide +kernel
theorem gz_pop41 : ∀ a, a < 2 → ∀ b, b < 256 → gzBc (Int32.ofNat (20992 + 256 * a + b)) = Int32.ofNat (gzQn (fun j => (20992 + 256 * a + b).testBit j) 0 15) := by decide +kernel
theorem gz_pop42 : ∀ a, a < 2 → ∀ b, b < 256 → gzBc (Int32.ofNat (21504 + 256 * a + b)) = Int32.ofNat (gzQn (fun j => (21504 + 256 * a + b).testBit j) 0 15) := by decide +kernel
theorem gz_pop43 : ∀ a, a < 2 → ∀ b, b < 256 → gzBc (Int32.ofNat (22016 + 256 * a + b)) = Int32.ofNat (gzQn (fun j => (22016 + 256 * a + b).testBit j) 0 15) := by decide +kernel
theorem gz_pop44 : ∀ a, a < 2 → ∀ b, b < 256 → gzBc (Int32.ofNat (22528 + 256 * a + b)) = Int32.ofNat (gzQn (fun j => (22528 + 256 * a + b).testBit j) 0 15) := by decide +kernel
theorem gz_pop45 : ∀ a, a < 2 → ∀ b, b < 256 → gzBc (Int32.ofNat (23040 + 256 * a + b)) = Int32.ofNat (gzQn (fun j => (23040 + 256 * a + b).testBit j) 0 15) := by decide +kernel
theorem gz_pop46 : ∀ a, a < 2 → ∀ b, b < 256 → gzBc (Int32.ofNat (23552 + 256 * a + b)) = Int32.ofNat (gzQn (fun j => (23552 + 256 * a + b).testBit j) 0 15) := by decide +kernel
theorem gz_pop47 : ∀ a, a < 2 → ∀ b, b < 256 → gzBc (Int32.ofNat (24064 + 256 * a + b)) = Int32.ofNat (gzQn (fun j => (24064 + 256 * a + b).testBit j) 0 15) := by decide +kernel
theorem gz_pop48 : ∀ a, a < 2 → ∀ b, b < 256 → gzBc (Int32.ofNat (24576 + 256 * a + b)) = Int32.ofNat (gzQn (fun j => (24576 + 256 * a + b).testBit j) 0 15) := by decide +kernel
theorem gz_pop49 : ∀ a, a < 2 → ∀ b, b < 256 → gzBc (Int32.ofNat (25088 + 256 * a + b)) = Int32.ofNat (gzQn (fun j => (25088 + 256 * a + b).testBit j) 0 15) := by decide +kernel
theorem gz_pop50 : ∀ a, a < 2 → ∀ b, b < 256 → gzBc (Int32.ofNat (25600 + 256 * a + b)) = Int32.ofNat (gzQn (fun j => (25600 + 256 * a + b).testBit j) 0 15) := by decide +kernel
theorem gz_pop51 : ∀ a, a < 2 → ∀ b, b < 256 → gzBc (Int32.ofNat (26112 + 256 * a + b)) = Int32.ofNat (gzQn (fun j => (26112 + 256 * a + b).testBit j) 0 15) := by decide +kernel
theorem gz_pop52 : ∀ a, a < 2 → ∀ b, b < 256 → gzBc (Int32.ofNat (26624 + 256 * a + b)) = Int32.ofNat (gzQn (fun j => (26624 + 256 * a + b).testBit j) 0 15) := by decide +kernel
theorem gz_pop53 : ∀ a, a < 2 → ∀ b, b < 256 → gzBc (Int32.ofNat (27136 + 256 * a + b)) = Int32.ofNat (gzQn (fun j => (27136 + 256 * a + b).testBit j) 0 15) := by decide +kernel
theorem gz_pop54 : ∀ a, a < 2 → ∀ b, b < 256 → gzBc (Int32.ofNat (27648 + 256 * a + b)) = Int32.ofNat (gzQn (fun j => (27648 + 256 * a + b).testBit j) 0 15) := by decide +kernel
theorem gz_pop55 : ∀ a, a < 2 → ∀ b, b < 256 → gzBc (Int32.ofNat (28160 + 256 * a + b)) = Int32.ofNat (gzQn (fun j => (28160 + 256 * a + b).testBit j) 0 15) := by decide +kernel
theorem gz_pop56 : ∀ a, a < 2 → ∀ b, b < 256 → gzBc (Int32.ofNat (28672 + 256 * a + b)) = Int32.ofNat (gzQn (fun j => (28672 + 256 * a + b).testBit j) 0 15) := by decide +kernel
theorem gz_pop57 : ∀ a, a < 2 → ∀ b, b < 256 → gzBc (Int32.ofNat (29184 + 256 * a + b)) = Int32.ofNat (gzQn (fun j => (29184 + 256 * a + b).testBit j) 0 15) := by decide +kernel
theorem gz_pop58 : ∀ a, a < 2 → ∀ b, b < 256 → gzBc (Int32.ofNat (29696 + 256 * a + b)) = Int32.ofNat (gzQn (fun j => (29696 + 256 * a + b).testBit j) 0 15) := by decide +kernel
theorem gz_pop59 : ∀ a, a < 2 → ∀ b, b < 256 → gzBc (Int32.ofNat (30208 + 256 * a + b)) = Int32.ofNat (gzQn (fun j => (30208 + 256 * a + b).testBit j) 0 15) := by decide +kernel
theorem gz_pop60 : ∀ a, a < 2 → ∀ b, b < 256 → gzBc (Int32.ofNat (30720 + 256 * a + b)) = Int32.ofNat (gzQn (fun j => (30720 + 256 * a + b).testBit j) 0 15) := by decide +kernel
theorem gz_pop61 : ∀ a, a < 2 → ∀ b, b < 256 → gzBc (Int32.ofNat (31232 + 256 * a + b)) = Int32.ofNat (gzQn (fun j => (31232 + 256 * a + b).testBit j) 0 15) := by decide +kernel
theorem gz_pop62 : ∀ a, a < 2 → ∀ b, b < 256 → gzBc (Int32.ofNat (31744 + 256 * a + b)) = Int32.ofNat (gzQn (fun j => (31744 + 256 * a + b).testBit j) 0 15) := by decide +kernel
theorem gz_pop63 : ∀ a, a < 2 → ∀ b, b < 256 → gzBc (Int32.ofNat (32256 + 256 * a + b)) = Int32.ofNat (gzQn (fun j => (32256 + 256 * a + b).testBit j) 0 15) := by decide +kernel
theorem gz_pop (x : Nat) (h : x < 32768) : gzBc (Int32.ofNat x) = Int32.ofNat (gzQn (fun j => x.testBit j) 0 15) := by
  have hk : x / 512 < 64 := by omega
  have ha : x % 512 / 256 < 2 := by omega
  have hb : x % 256 < 256 := by omega
  by_cases q2 : x / 512 < 32
  · by_cases q4 : x / 512 < 16
    · by_cases q6 : x / 512 < 8
      · by_cases q8 : x / 512 < 4
        · by_cases q10 : x / 512 < 2
          · by_cases q12 : x / 512 < 1
            · have e := gz_pop0 (x % 512 / 256) ha (x % 256) hb
              rw [show 0 + 256 * (x % 512 / 256) + x % 256 = x by omega] at e
              exact e
            · have e := gz_pop1 (x % 512 / 256) ha (x % 256) hb
              rw [show 512 + 256 * (x % 512 / 256) + x % 256 = x by omega] at e
              exact e
          · by_cases q12 : x / 512 < 3
            · have e := gz_pop2 (x % 512 / 256) ha (x % 256) hb
              rw [show 1024 + 256 * (x % 512 / 256) + x % 256 = x by omega] at e
              exact e
            · have e := gz_pop3 (x % 512 / 256) ha (x % 256) hb
              rw [show 1536 + 256 * (x % 512 / 256) + x % 256 = x by omega] at e
              exact e
        · by_cases q10 : x / 512 < 6
          · by_cases q12 : x / 512 < 5
            · have e := gz_pop4 (x % 512 / 256) ha (x % 256) hb
              rw [show 2048 + 256 * (x % 512 / 256) + x % 256 = x by omega] at e
              exact e
            · have e := gz_pop5 (x % 512 / 256) ha (x % 256) hb
              rw [show 2560 + 256 * (x % 512 / 256) + x % 256 = x by omega] at e
              exact e
          · by_cases q12 : x / 512 < 7
            · have e := gz_pop6 (x % 512 / 256) ha (x % 256) hb
              rw [show 3072 + 256 * (x % 512 / 256) + x % 256 = x by omega] at e
              exact e
            · have e := gz_pop7 (x % 512 / 256) ha (x % 256) hb
              rw [show 3584 + 256 * (x % 512 / 256) + x % 256 = x by omega] at e
              exact e
      · by_cases q8 : x / 512 < 12
        · by_cases q10 : x / 512 < 10
          · by_cases q12 : x / 512 < 9
            · have e := gz_pop8 (x % 512 / 256) ha (x % 256) hb
              rw [show 4096 + 256 * (x % 512 / 256) + x % 256 = x by omega] at e
              exact e
            · have e := gz_pop9 (x % 512 / 256) ha (x % 256) hb
              rw [show 4608 + 256 * (x % 512 / 256) + x % 256 = x by omega] at e
              exact e
          · by_cases q12 : x / 512 < 11
            · have e := gz_pop10 (x % 512 / 256) ha (x % 256) hb
              rw [show 5120 + 256 * (x % 512 / 256) + x % 256 = x by omega] at e
              exact e
            · have e := gz_pop11 (x % 512 / 256) ha (x % 256) hb
              rw [show 5632 + 256 * (x % 512 / 256) + x % 256 = x by omega] at e
              exact e
        · by_cases q10 : x / 512 < 14
          · by_cases q12 : x / 512 < 13
            · have e := gz_pop12 (x % 512 / 256) ha (x % 256) hb
              rw [show 6144 + 256 * (x % 512 / 256) + x % 256 = x by omega] at e
              exact e
            · have e := gz_pop13 (x % 512 / 256) ha (x % 256) hb
              rw [show 6656 + 256 * (x % 512 / 256) + x % 256 = x by omega] at e
              exact e
          · by_cases q12 : x / 512 < 15
            · have e := gz_pop14 (x % 512 / 256) ha (x % 256) hb
              rw [show 7168 + 256 * (x % 512 / 256) + x % 256 = x by omega] at e
              exact e
            · have e := gz_pop15 (x % 512 / 256) ha (x % 256) hb
              rw [show 7680 + 256 * (x % 512 / 256) + x % 256 = x by omega] at e
              exact e
    · by_cases q6 : x / 512 < 24
      · by_cases q8 : x / 512 < 20
        · by_cases q10 : x / 512 < 18
          · by_cases q12 : x / 512 < 17
            · have e := gz_pop16 (x % 512 / 256) ha (x % 256) hb
              rw [show 8192 + 256 * (x % 512 / 256) + x % 256 = x by omega] at e
              exact e
            · have e := gz_pop17 (x % 512 / 256) ha (x % 256) hb
              rw [show 8704 + 256 * (x % 512 / 256) + x % 256 = x by omega] at e
              exact e
          · by_cases q12 : x / 512 < 19
            · have e := gz_pop18 (x % 512 / 256) ha (x % 256) hb
              rw [show 9216 + 256 * (x % 512 / 256) + x % 256 = x by omega] at e
              exact e
            · have e := gz_pop19 (x % 512 / 256) ha (x % 256) hb
              rw [show 9728 + 256 * (x % 512 / 256) + x % 256 = x by omega] at e
              exact e
        · by_cases q10 : x / 512 < 22
          · by_cases q12 : x / 512 < 21
            · have e := gz_pop20 (x % 512 / 256) ha (x % 256) hb
              rw [show 10240 + 256 * (x % 512 / 256) + x % 256 = x by omega] at e
              exact e
            · have e := gz_pop21 (x % 512 / 256) ha (x % 256) hb
              rw [show 10752 + 256 * (x % 512 / 256) + x % 256 = x by omega] at e
              exact e
          · by_cases q12 : x / 512 < 23
            · have e := gz_pop22 (x % 512 / 256) ha (x % 256) hb
              rw [show 11264 + 256 * (x % 512 / 256) + x % 256 = x by omega] at e
              exact e
            · have e := gz_pop23 (x % 512 / 256) ha (x % 256) hb
              rw [show 11776 + 256 * (x % 512 / 256) + x % 256 = x by omega] at e
              exact e
      · by_cases q8 : x / 512 < 28
        · by_cases q10 : x / 512 < 26
          · by_cases q12 : x / 512 < 25
            · have e := gz_pop24 (x % 512 / 256) ha (x % 256) hb
              rw [show 12288 + 256 * (x % 512 / 256) + x % 256 = x by omega] at e
              exact e
            · have e := gz_pop25 (x % 512 / 256) ha (x % 256) hb
              rw [show 12800 + 256 * (x % 512 / 256) + x % 256 = x by omega] at e
              exact e
          · by_cases q12 : x / 512 < 27
            · have e := gz_pop26 (x % 512 / 256) ha (x % 256) hb
              rw [show 13312 + 256 * (x % 512 / 256) + x % 256 = x by omega] at e
              exact e
            · have e := gz_pop27 (x % 512 / 256) ha (x % 256) hb
              rw [show 13824 + 256 * (x % 512 / 256) + x % 256 = x by omega] at e
              exact e
        · by_cases q10 : x / 512 < 30
          · by_cases q12 : x / 512 < 29
            · have e := gz_pop28 (x % 512 / 256) ha (x % 256) hb
              rw [show 14336 + 256 * (x % 512 / 256) + x % 256 = x by omega] at e
              exact e
            · have e := gz_pop29 (x % 512 / 256) ha (x % 256) hb
              rw [show 14848 + 256 * (x % 512 / 256) + x % 256 = x by omega] at e
              exact e
          · by_cases q12 : x / 512 < 31
            · have e := gz_pop30 (x % 512 / 256) ha (x % 256) hb
              rw [show 15360 + 256 * (x % 512 / 256) + x % 256 = x by omega] at e
              exact e
            · have e := gz_pop31 (x % 512 / 256) ha (x % 256) hb
              rw [show 15872 + 256 * (x % 512 / 256) + x % 256 = x by omega] at e
              exact e
  · by_cases q4 : x / 512 < 48
    · by_cases q6 : x / 512 < 40
      · by_cases q8 : x / 512 < 36
        · by_cases q10 : x / 512 < 34
          · by_cases q12 : x / 512 < 33
            · have e := gz_pop32 (x % 512 / 256) ha (x % 256) hb
              rw [show 16384 + 256 * (x % 512 / 256) + x % 256 = x by omega] at e
              exact e
            · have e := gz_pop33 (x % 512 / 256) ha (x % 256) hb
              rw [show 16896 + 256 * (x % 512 / 256) + x % 256 = x by omega] at e
              exact e
          · by_cases q12 : x / 512 < 35
            · have e := gz_pop34 (x % 512 / 256) ha (x % 256) hb
              rw [show 17408 + 256 * (x % 512 / 256) + x % 256 = x by omega] at e
              exact e
            · have e := gz_pop35 (x % 512 / 256) ha (x % 256) hb
              rw [show 17920 + 256 * (x % 512 / 256) + x % 256 = x by omega] at e
              exact e
        · by_cases q10 : x / 512 < 38
          · by_cases q12 : x / 512 < 37
            · have e := gz_pop36 (x % 512 / 256) ha (x % 256) hb
              rw [show 18432 + 256 * (x % 512 / 256) + x % 256 = x by omega] at e
              exact e
            · have e := gz_pop37 (x % 512 / 256) ha (x % 256) hb
              rw [show 18944 + 256 * (x % 512 / 256) + x % 256 = x by omega] at e
              exact e
          · by_cases q12 : x / 512 < 39
            · have e := gz_pop38 (x % 512 / 256) ha (x % 256) hb
              rw [show 19456 + 256 * (x % 512 / 256) + x % 256 = x by omega] at e
              exact e
            · have e := gz_pop39 (x % 512 / 256) ha (x % 256) hb
              rw [show 19968 + 256 * (x % 512 / 256) + x % 256 = x by omega] at e
              exact e
      · by_cases q8 : x / 512 < 44
        · by_cases q10 : x / 512 < 42
          · by_cases q12 : x / 512 < 41
            · have e := gz_pop40 (x % 512 / 256) ha (x % 256) hb
              rw [show 20480 + 256 * (x % 512 / 256) + x % 256 = x by omega] at e
              exact e
            · have e := gz_pop41 (x % 512 / 256) ha (x % 256) hb
              rw [show 20992 + 256 * (x % 512 / 256) + x % 256 = x by omega] at e
              exact e
          · by_cases q12 : x / 512 < 43
            · have e := gz_pop42 (x % 512 / 256) ha (x % 256) hb
              rw [show 21504 + 256 * (x % 512 / 256) + x % 256 = x by omega] at e
              exact e
            · have e := gz_pop43 (x % 512 / 256) ha (x % 256) hb
              rw [show 22016 + 256 * (x % 512 / 256) + x % 256 = x by omega] at e
              exact e
        · by_cases q10 : x / 512 < 46
          · by_cases q12 : x / 512 < 45
            · have e := gz_pop44 (x % 512 / 256) ha (x % 256) hb
              rw [show 22528 + 256 * (x % 512 / 256) + x % 256 = x by omega] at e
              exact e
            · have e := gz_pop45 (x % 512 / 256) ha (x % 256) hb
              rw [show 23040 + 256 * (x % 512 / 256) + x % 256 = x by omega] at e
              exact e
          · by_cases q12 : x / 512 < 47
            · have e := gz_pop46 (x % 512 / 256) ha (x % 256) hb
              rw [show 23552 + 256 * (x % 512 / 256) + x % 256 = x by omega] at e
              exact e
            · have e := gz_pop47 (x % 512 / 256) ha (x % 256) hb
              rw [show 24064 + 256 * (x % 512 / 256) + x % 256 = x by omega] at e
              exact e
    · by_cases q6 : x / 512 < 56
      · by_cases q8 : x / 512 < 52
        · by_cases q10 : x / 512 < 50
          · by_cases q12 : x / 512 < 49
            · have e := gz_pop48 (x % 512 / 256) ha (x % 256) hb
              rw [show 24576 + 256 * (x % 512 / 256) + x % 256 = x by omega] at e
              exact e
            · have e := gz_pop49 (x % 512 / 256) ha (x % 256) hb
              rw [show 25088 + 256 * (x % 512 / 256) + x % 256 = x by omega] at e
              exact e
          · by_cases q12 : x / 512 < 51
            · have e := gz_pop50 (x % 512 / 256) ha (x % 256) hb
              rw [show 25600 + 256 * (x % 512 / 256) + x % 256 = x by omega] at e
              exact e
            · have e := gz_pop51 (x % 512 / 256) ha (x % 256) hb
              rw [show 26112 + 256 * (x % 512 / 256) + x % 256 = x by omega] at e
              exact e
        · by_cases q10 : x / 512 < 54
          · by_cases q12 : x / 512 < 53
            · have e := gz_pop52 (x % 512 / 256) ha (x % 256) hb
              rw [show 26624 + 256 * (x % 512 / 256) + x % 256 = x by omega] at e
              exact e
            · have e := gz_pop53 (x % 512 / 256) ha (x % 256) hb
              rw [show 27136 + 256 * (x % 512 / 256) + x % 256 = x by omega] at e
              exact e
          · by_cases q12 : x / 512 < 55
            · have e := gz_pop54 (x % 512 / 256) ha (x % 256) hb
              rw [show 27648 + 256 * (x % 512 / 256) + x % 256 = x by omega] at e
              exact e
            · have e := gz_pop55 (x % 512 / 256) ha (x % 256) hb
              rw [show 28160 + 256 * (x % 512 / 256) + x % 256 = x by omega] at e
              exact e
      · by_cases q8 : x / 512 < 60
        · by_cases q10 : x / 512 < 58
          · by_cases q12 : x / 512 < 57
            · have e := gz_pop56 (x % 512 / 256) ha (x % 256) hb
              rw [show 28672 + 256 * (x % 512 / 256) + x % 256 = x by omega] at e
              exact e
            · have e := gz_pop57 (x % 512 / 256) ha (x % 256) hb
              rw [show 29184 + 256 * (x % 512 / 256) + x % 256 = x by omega] at e
              exact e
          · by_cases q12 : x / 512 < 59
            · have e := gz_pop58 (x % 512 / 256) ha (x % 256) hb
              rw [show 29696 + 256 * (x % 512 / 256) + x % 256 = x by omega] at e
              exact e
            · have e := gz_pop59 (x % 512 / 256) ha (x % 256) hb
              rw [show 30208 + 256 * (x % 512 / 256) + x % 256 = x by omega] at e
              exact e
        · by_cases q10 : x / 512 < 62
          · by_cases q12 : x / 512 < 61
            · have e := gz_pop60 (x % 512 / 256) ha (x % 256) hb
              rw [show 30720 + 256 * (x % 512 / 256) + x % 256 = x by omega] at e
              exact e
            · have e := gz_pop61 (x % 512 / 256) ha (x % 256) hb
              rw [show 31232 + 256 * (x % 512 / 256) + x % 256 = x by omega] at e
              exact e
          · by_cases q12 : x / 512 < 63
            · have e := gz_pop62 (x % 512 / 256) ha (x % 256) hb
              rw [show 31744 + 256 * (x % 512 / 256) + x % 256 = x by omega] at e
              exact e
            · have e := gz_pop63 (x % 512 / 256) ha (x % 256) hb
              rw [show 32256 + 256 * (x % 512 / 256) + x % 256 = x by omega] at e
              exact e
