/-! the law's loop, from the entry to the end -/
theorem gz_forget {g : gzG} {zm d : Nat} {y : gzMe} {pc : Nat} {loc loc2 : List (Option gzV)} {st : List gzV} {z : Nat} {Q : gzO → gzS → Prop} {S : gzS} (hs : ∀ q ∈ gz_pr g 0 loc2, q ∈ gz_pr g 0 loc) (h : gzX g zm d y pc loc2 st S z Q) : gzX g zm d y pc loc st S z Q :=
  fun S0 p e R s m args below meth c H locs ls C h1 h2 hW h4 hl => h S0 p e R s m args below meth c H locs ls C h1 h2 hW h4 (gz_sub hl hs)
def gzQ1 : gzO → gzS → Prop := fun o _ => o = .ok (some (.inl 1))
theorem law_do {g : gzG} {d i z : Nat} {I : gzIT} {J : gzJT} {Q : gzO → gzS → Prop} (hi : i + 6 ≤ g.2.2.2.2.2 1 61) (hz : z + 1 ≤ 512) (h : gzR I I) (K : ∀ (l5 l6 : Option gzV) (I2 : gzIT) (J2 : gzJT) (z2 : Nat), gzR I2 I2 → z ≤ z2 → z2 ≤ z + 1 → gzX g 512 (d + 130) mLaw 2739 [some (.inr (.inr (0, 61))), some (.inr (.inr (0, 30))), some (.inr (.inr (0, 47))), some (.inr (.inr (0, 59))), some (.inl (Int32.ofNat i)), l5, l6] [] (gzN, gzR0, I2, J2) z2 Q) (a : Int32) :
    gzX g 512 (d + 130) mLaw 40 [some (.inr (.inr (0, 61))), some (.inr (.inr (0, 30))), some (.inr (.inr (0, 47))), some (.inr (.inr (0, 59))), some (.inl (Int32.ofNat i)), none, none] [.inl a] (gzN, gzR0, I, J) z Q := by
  rcases gz_byn a 57 (by decide) with ⟨k, hk, ha⟩ | ha | ⟨h0, ha⟩
  · have hs : ∀ off tgt : Int, True := fun _ _ => trivial
    by_cases hc : k = 0
    · subst hc; subst ha; exact gz_swIn (pc := 40) (off := 244) (tgt := 284) dL_law__40 (by decide) (by decide) rfl (by decide) (b_0 hi hz h K)
    by_cases hc : k = 1
    · subst hc; subst ha; exact gz_swIn (pc := 40) (off := 317) (tgt := 357) dL_law__40 (by decide) (by decide) rfl (by decide) (b_1 hi hz h K)
    by_cases hc : k = 2
    · subst hc; subst ha; exact gz_swIn (pc := 40) (off := 342) (tgt := 382) dL_law__40 (by decide) (by decide) rfl (by decide) (b_2 hi hz h K)
    by_cases hc : k = 3
    · subst hc; subst ha; exact gz_swIn (pc := 40) (off := 386) (tgt := 426) dL_law__40 (by decide) (by decide) rfl (by decide) (b_3 hi hz h K)
    by_cases hc : k = 4
    · subst hc; subst ha; exact gz_swIn (pc := 40) (off := 430) (tgt := 470) dL_law__40 (by decide) (by decide) rfl (by decide) (b_4 hi hz h K)
    by_cases hc : k = 5
    · subst hc; subst ha; exact gz_swIn (pc := 40) (off := 443) (tgt := 483) dL_law__40 (by decide) (by decide) rfl (by decide) (b_5 hi hz h K)
    by_cases hc : k = 6
    · subst hc; subst ha; exact gz_swIn (pc := 40) (off := 511) (tgt := 551) dL_law__40 (by decide) (by decide) rfl (by decide) (b_6 hi hz h K)
    by_cases hc : k = 7
    · subst hc; subst ha; exact gz_swIn (pc := 40) (off := 579) (tgt := 619) dL_law__40 (by decide) (by decide) rfl (by decide) (b_7 hi hz h K)
    by_cases hc : k = 8
    · subst hc; subst ha; exact gz_swIn (pc := 40) (off := 647) (tgt := 687) dL_law__40 (by decide) (by decide) rfl (by decide) (b_8 hi hz h K)
    by_cases hc : k = 9
    · subst hc; subst ha; exact gz_swIn (pc := 40) (off := 703) (tgt := 743) dL_law__40 (by decide) (by decide) rfl (by decide) (b_9 hi hz h K)
    by_cases hc : k = 10
    · subst hc; subst ha; exact gz_swIn (pc := 40) (off := 759) (tgt := 799) dL_law__40 (by decide) (by decide) rfl (by decide) (b_10 hi hz h K)
    by_cases hc : k = 11
    · subst hc; subst ha; exact gz_swIn (pc := 40) (off := 839) (tgt := 879) dL_law__40 (by decide) (by decide) rfl (by decide) (b_11 hi hz h K)
    by_cases hc : k = 12
    · subst hc; subst ha; exact gz_swIn (pc := 40) (off := 895) (tgt := 935) dL_law__40 (by decide) (by decide) rfl (by decide) (b_12 hi hz h K)
    by_cases hc : k = 13
    · subst hc; subst ha; exact gz_swIn (pc := 40) (off := 986) (tgt := 1026) dL_law__40 (by decide) (by decide) rfl (by decide) (b_13 hi hz h K)
    by_cases hc : k = 14
    · subst hc; subst ha; exact gz_swIn (pc := 40) (off := 1066) (tgt := 1106) dL_law__40 (by decide) (by decide) rfl (by decide) (b_14 hi hz h K)
    by_cases hc : k = 15
    · subst hc; subst ha; exact gz_swIn (pc := 40) (off := 1134) (tgt := 1174) dL_law__40 (by decide) (by decide) rfl (by decide) (b_15 hi hz h K)
    by_cases hc : k = 16
    · subst hc; subst ha; exact gz_swIn (pc := 40) (off := 1202) (tgt := 1242) dL_law__40 (by decide) (by decide) rfl (by decide) (b_16 hi hz h K)
    by_cases hc : k = 17
    · subst hc; subst ha; exact gz_swIn (pc := 40) (off := 1243) (tgt := 1283) dL_law__40 (by decide) (by decide) rfl (by decide) (b_17 hi hz h K)
    by_cases hc : k = 18
    · subst hc; subst ha; exact gz_swIn (pc := 40) (off := 1256) (tgt := 1296) dL_law__40 (by decide) (by decide) rfl (by decide) (b_18 hi hz h K)
    by_cases hc : k = 19
    · subst hc; subst ha; exact gz_swIn (pc := 40) (off := 1269) (tgt := 1309) dL_law__40 (by decide) (by decide) rfl (by decide) (b_19 hi hz h K)
    by_cases hc : k = 20
    · subst hc; subst ha; exact gz_swIn (pc := 40) (off := 1282) (tgt := 1322) dL_law__40 (by decide) (by decide) rfl (by decide) (b_20 hi hz h K)
    by_cases hc : k = 21
    · subst hc; subst ha; exact gz_swIn (pc := 40) (off := 1295) (tgt := 1335) dL_law__40 (by decide) (by decide) rfl (by decide) (b_21 hi hz h K)
    by_cases hc : k = 22
    · subst hc; subst ha; exact gz_swIn (pc := 40) (off := 1308) (tgt := 1348) dL_law__40 (by decide) (by decide) rfl (by decide) (b_22 hi hz h K)
    by_cases hc : k = 23
    · subst hc; subst ha; exact gz_swIn (pc := 40) (off := 1321) (tgt := 1361) dL_law__40 (by decide) (by decide) rfl (by decide) (b_23 hi hz h K)
    by_cases hc : k = 24
    · subst hc; subst ha; exact gz_swIn (pc := 40) (off := 1346) (tgt := 1386) dL_law__40 (by decide) (by decide) rfl (by decide) (b_24 hi hz h K)
    by_cases hc : k = 25
    · subst hc; subst ha; exact gz_swIn (pc := 40) (off := 1402) (tgt := 1442) dL_law__40 (by decide) (by decide) rfl (by decide) (b_25 hi hz h K)
    by_cases hc : k = 26
    · subst hc; subst ha; exact gz_swIn (pc := 40) (off := 1415) (tgt := 1455) dL_law__40 (by decide) (by decide) rfl (by decide) (b_26 hi hz h K)
    by_cases hc : k = 27
    · subst hc; subst ha; exact gz_swIn (pc := 40) (off := 1456) (tgt := 1496) dL_law__40 (by decide) (by decide) rfl (by decide) (b_27 hi hz h K)
    by_cases hc : k = 28
    · subst hc; subst ha; exact gz_swIn (pc := 40) (off := 1528) (tgt := 1568) dL_law__40 (by decide) (by decide) rfl (by decide) (b_28 hi hz h K)
    by_cases hc : k = 29
    · subst hc; subst ha; exact gz_swIn (pc := 40) (off := 1572) (tgt := 1612) dL_law__40 (by decide) (by decide) rfl (by decide) (b_29 hi hz h K)
    by_cases hc : k = 30
    · subst hc; subst ha; exact gz_swIn (pc := 40) (off := 1585) (tgt := 1625) dL_law__40 (by decide) (by decide) rfl (by decide) (b_30 hi hz h K)
    by_cases hc : k = 31
    · subst hc; subst ha; exact gz_swIn (pc := 40) (off := 1653) (tgt := 1693) dL_law__40 (by decide) (by decide) rfl (by decide) (b_31 hi hz h K)
    by_cases hc : k = 32
    · subst hc; subst ha; exact gz_swIn (pc := 40) (off := 1716) (tgt := 1756) dL_law__40 (by decide) (by decide) rfl (by decide) (b_32 hi hz h K)
    by_cases hc : k = 33
    · subst hc; subst ha; exact gz_swIn (pc := 40) (off := 1729) (tgt := 1769) dL_law__40 (by decide) (by decide) rfl (by decide) (b_33 hi hz h K)
    by_cases hc : k = 34
    · subst hc; subst ha; exact gz_swIn (pc := 40) (off := 1742) (tgt := 1782) dL_law__40 (by decide) (by decide) rfl (by decide) (b_34 hi hz h K)
    by_cases hc : k = 35
    · subst hc; subst ha; exact gz_swIn (pc := 40) (off := 1798) (tgt := 1838) dL_law__40 (by decide) (by decide) rfl (by decide) (b_35 hi hz h K)
    by_cases hc : k = 36
    · subst hc; subst ha; exact gz_swIn (pc := 40) (off := 1866) (tgt := 1906) dL_law__40 (by decide) (by decide) rfl (by decide) (b_36 hi hz h K)
    by_cases hc : k = 37
    · subst hc; subst ha; exact gz_swIn (pc := 40) (off := 1941) (tgt := 1981) dL_law__40 (by decide) (by decide) rfl (by decide) (b_37 hi hz h K)
    by_cases hc : k = 38
    · subst hc; subst ha; exact gz_swIn (pc := 40) (off := 1997) (tgt := 2037) dL_law__40 (by decide) (by decide) rfl (by decide) (b_38 hi hz h K)
    by_cases hc : k = 39
    · subst hc; subst ha; exact gz_swIn (pc := 40) (off := 2065) (tgt := 2105) dL_law__40 (by decide) (by decide) rfl (by decide) (b_39 hi hz h K)
    by_cases hc : k = 40
    · subst hc; subst ha; exact gz_swIn (pc := 40) (off := 2078) (tgt := 2118) dL_law__40 (by decide) (by decide) rfl (by decide) (b_40 hi hz h K)
    by_cases hc : k = 41
    · subst hc; subst ha; exact gz_swIn (pc := 40) (off := 2091) (tgt := 2131) dL_law__40 (by decide) (by decide) rfl (by decide) (b_41 hi hz h K)
    by_cases hc : k = 42
    · subst hc; subst ha; exact gz_swIn (pc := 40) (off := 2104) (tgt := 2144) dL_law__40 (by decide) (by decide) rfl (by decide) (b_42 hi hz h K)
    by_cases hc : k = 43
    · subst hc; subst ha; exact gz_swIn (pc := 40) (off := 2117) (tgt := 2157) dL_law__40 (by decide) (by decide) rfl (by decide) (b_43 hi hz h K)
    by_cases hc : k = 44
    · subst hc; subst ha; exact gz_swIn (pc := 40) (off := 2130) (tgt := 2170) dL_law__40 (by decide) (by decide) rfl (by decide) (b_44 hi hz h K)
    by_cases hc : k = 45
    · subst hc; subst ha; exact gz_swIn (pc := 40) (off := 2143) (tgt := 2183) dL_law__40 (by decide) (by decide) rfl (by decide) (b_45 hi hz h K)
    by_cases hc : k = 46
    · subst hc; subst ha; exact gz_swIn (pc := 40) (off := 2156) (tgt := 2196) dL_law__40 (by decide) (by decide) rfl (by decide) (b_46 hi hz h K)
    by_cases hc : k = 47
    · subst hc; subst ha; exact gz_swIn (pc := 40) (off := 2224) (tgt := 2264) dL_law__40 (by decide) (by decide) rfl (by decide) (b_47 hi hz h K)
    by_cases hc : k = 48
    · subst hc; subst ha; exact gz_swIn (pc := 40) (off := 2292) (tgt := 2332) dL_law__40 (by decide) (by decide) rfl (by decide) (b_48 hi hz h K)
    by_cases hc : k = 49
    · subst hc; subst ha; exact gz_swIn (pc := 40) (off := 2376) (tgt := 2416) dL_law__40 (by decide) (by decide) rfl (by decide) (b_49 hi hz h K)
    by_cases hc : k = 50
    · subst hc; subst ha; exact gz_swIn (pc := 40) (off := 2460) (tgt := 2500) dL_law__40 (by decide) (by decide) rfl (by decide) (b_50 hi hz h K)
    by_cases hc : k = 51
    · subst hc; subst ha; exact gz_swIn (pc := 40) (off := 2544) (tgt := 2584) dL_law__40 (by decide) (by decide) rfl (by decide) (b_51 hi hz h K)
    by_cases hc : k = 52
    · subst hc; subst ha; exact gz_swIn (pc := 40) (off := 2612) (tgt := 2652) dL_law__40 (by decide) (by decide) rfl (by decide) (b_52 hi hz h K)
    by_cases hc : k = 53
    · subst hc; subst ha; exact gz_swIn (pc := 40) (off := 2637) (tgt := 2677) dL_law__40 (by decide) (by decide) rfl (by decide) (b_53 hi hz h K)
    by_cases hc : k = 54
    · subst hc; subst ha; exact gz_swIn (pc := 40) (off := 2650) (tgt := 2690) dL_law__40 (by decide) (by decide) rfl (by decide) (b_54 hi hz h K)
    by_cases hc : k = 55
    · subst hc; subst ha; exact gz_swIn (pc := 40) (off := 2661) (tgt := 2701) dL_law__40 (by decide) (by decide) rfl (by decide) (b_55 hi hz h K)
    by_cases hc : k = 56
    · subst hc; subst ha; exact gz_swIn (pc := 40) (off := 2674) (tgt := 2714) dL_law__40 (by decide) (by decide) rfl (by decide) (b_56 hi hz h K)
    omega
  · exact gz_swOut (pc := 40) (tgt := 2739) dL_law__40 (Or.inl (by have := Int32.lt_iff_toInt_lt.mp ha; exact this)) (by decide) (K _ _ _ _ _ h (Nat.le_refl _) (Nat.le_succ _))
  · exact gz_swOut (pc := 40) (tgt := 2739) dL_law__40 (Or.inr (by have := Int32.le_iff_toInt_le.mp ha; rw [gzn_int (by decide)] at this; omega)) (by decide) (K _ _ _ _ _ h (Nat.le_refl _) (Nat.le_succ _))
theorem law_hi {L k : Nat} (hL : L ≤ 3072) (h3 : 6 * k ≤ L) (hc : ¬ Int32.ofNat L - 6 < Int32.ofNat (6 * k)) : 6 * k + 6 ≤ L := by
  rcases Nat.lt_or_ge L 6 with h | h
  · exfalso
    apply hc
    have hk : k = 0 := by omega
    subst hk
    rcases (show L = 0 ∨ L = 1 ∨ L = 2 ∨ L = 3 ∨ L = 4 ∨ L = 5 by omega) with rfl | rfl | rfl | rfl | rfl | rfl <;> decide
  · rw [gzc_sub h, gzn_lt (by omega) (by omega)] at hc
    omega
theorem law_loop {g : gzG} {d : Nat} (hL : g.2.2.2.2.2 1 61 ≤ 3072) : ∀ (m k z : Nat) (I : gzIT) (J : gzJT) (l5 l6 : Option gzV), g.2.2.2.2.2 1 61 ≤ 6 * k + 6 * m + 5 → z ≤ k → 6 * k ≤ g.2.2.2.2.2 1 61 → gzR I I →
    gzX g 512 (d + 130) mLaw 23 [some (.inr (.inr (0, 61))), some (.inr (.inr (0, 30))), some (.inr (.inr (0, 47))), some (.inr (.inr (0, 59))), some (.inl (Int32.ofNat (6 * k))), l5, l6] [] (gzN, gzR0, I, J) z gzQ1 := by
  intro m
  induction m with
  | zero =>
    intro k z I J l5 l6 h1 h2 h3 h
    refine gz_iload (pc := 23) dL_law__23 rfl ?_
    refine gz_aload_n (pc := 25) dL_law__25 rfl ?_
    refine gz_slen (pc := 26) dL_law__26 ?_
    refine gz_bipush (pc := 27) dL_law__27 (v := 6) (by decide) ?_
    refine gz_isub (pc := 29) dL_law__29 ?_
    refine gz_ic_gt (pc := 30) (tgt := 2745) dL_law__30 (by decide) (fun _ => ?_) (fun hc => ?_)
    · refine gz_iconst (pc := 2745) dL_law__2745 (v := 1) (by decide) ?_
      exact gz_zret (pc := 2746) dL_law__2746 rfl (Or.inr rfl) rfl
    have hi : 6 * k + 6 ≤ g.2.2.2.2.2 1 61 := law_hi hL h3 hc
    · exact absurd hi (by omega)
  | succ m ih =>
    intro k z I J l5 l6 h1 h2 h3 h
    refine gz_iload (pc := 23) dL_law__23 rfl ?_
    refine gz_aload_n (pc := 25) dL_law__25 rfl ?_
    refine gz_slen (pc := 26) dL_law__26 ?_
    refine gz_bipush (pc := 27) dL_law__27 (v := 6) (by decide) ?_
    refine gz_isub (pc := 29) dL_law__29 ?_
    refine gz_ic_gt (pc := 30) (tgt := 2745) dL_law__30 (by decide) (fun _ => ?_) (fun hc => ?_)
    · refine gz_iconst (pc := 2745) dL_law__2745 (v := 1) (by decide) ?_
      exact gz_zret (pc := 2746) dL_law__2746 rfl (Or.inr rfl) rfl
    have hi : 6 * k + 6 ≤ g.2.2.2.2.2 1 61 := law_hi hL h3 hc
    · refine gz_forget (loc2 := [some (.inr (.inr (0, 61))), some (.inr (.inr (0, 30))), some (.inr (.inr (0, 47))), some (.inr (.inr (0, 59))), some (.inl (Int32.ofNat (6 * k))), none, none]) (fun q hq => ?_) ?_
      · rw [gz_pr_mem] at hq ⊢
        obtain ⟨j, v, hj, e⟩ := hq
        refine ⟨j, v, ?_, e⟩
        rcases j with _ | _ | _ | _ | _ | _ | _ | j
        · exact hj
        · exact hj
        · exact hj
        · exact hj
        · exact hj
        · cases hj
        · cases hj
        · cases hj
      refine gz_aload_n (pc := 33) dL_law__33 rfl ?_
      refine gz_iload (pc := 34) dL_law__34 rfl ?_
      refine gz_sld (j := 6 * k) (pc := 36) dL_law__36 rfl (by omega) ?_
      refine gz_bipush (pc := 37) dL_law__37 (v := 63) (by decide) ?_
      refine gz_iand (pc := 39) dL_law__39 ?_
      refine law_do (i := 6 * k) hi (by omega) h (fun l5 l6 I2 J2 z2 hR2 hz1 hz2 => ?_) _
      refine gz_iinc (pc := 2739) dL_law__2739 rfl (v := Int32.ofNat (6 * (k + 1))) (by rw [show 6 * (k + 1) = 6 * k + 6 from by omega]; exact (Int32.ofNat_add (6 * k) 6).symm) (by decide) rfl (loc2 := [some (.inr (.inr (0, 61))), some (.inr (.inr (0, 30))), some (.inr (.inr (0, 47))), some (.inr (.inr (0, 59))), some (.inl (Int32.ofNat (6 * (k + 1)))), l5, l6]) rfl ?_
      refine gz_goto (pc := 2742) (tgt := 23) dL_law__2742 (by decide) ?_
      exact ih (k + 1) z2 I2 J2 l5 l6 (by omega) (by omega) (by omega) hR2
theorem law_entry {g : gzG} {d : Nat} (hL : g.2.2.2.2.2 1 61 ≤ 3072) : gzX g 512 (d + 130) mLaw 0 [some (.inr (.inr (0, 61))), none, none, none, none, none, none] [] (0, gzR0, gzI0, gzJ0) 0 gzQ1 := by
  refine gz_new (pc := 0) (t := 0) (o := 30) (ci := 11) (r := (RX11, TX11, 13)) dL_law__0 rfl (by decide) (by decide +kernel) (by decide) rfl rfl rfl ckL_8.1 ikX11.1 MiX11_init.2.2.1.1 ckL_8.2 ikX11.2 MiX11_init.2.2.1.2 ?_
  refine gz_dupR (pc := 3) dL_law__3 ?_
  refine gz_I (zy := mX11_init) (zc := 0) (d := d + 129) (pc := 4) (t := 0) (o := 30) [] rfl dL_law__4 lkL_115 MiX11_init rfl (Or.inl rfl) (fun h => h) (by exact Nat.le_of_ble_eq_true rfl) ?_
  refine gz_useV (d := d + 129) (k_X11 (d := d + 126)) ?_
  refine gz_astore_n (pc := 7) dL_law__7 (by decide) rfl (loc2 := [some (.inr (.inr (0, 61))), some (.inr (.inr (0, 30))), none, none, none, none, none]) rfl ?_
  refine gz_new (pc := 8) (t := 0) (o := 47) (ci := 12) (r := (RX12, TX12, 21)) dL_law__8 rfl (by decide) (by decide +kernel) (by decide) rfl rfl rfl ckL_116.1 ikX12.1 MiX12_init.2.2.1.1 ckL_116.2 ikX12.2 MiX12_init.2.2.1.2 ?_
  refine gz_dupR (pc := 11) dL_law__11 ?_
  refine gz_I (zy := mX12_init) (zc := 0) (d := d + 129) (pc := 12) (t := 0) (o := 47) [] rfl dL_law__12 lkL_118 MiX12_init rfl (Or.inl rfl) (fun h => h) (by exact Nat.le_of_ble_eq_true rfl) ?_
  refine gz_useV (d := d + 129) (k_X12 (d := d + 128)) ?_
  refine gz_astore_n (pc := 15) dL_law__15 (by decide) rfl (loc2 := [some (.inr (.inr (0, 61))), some (.inr (.inr (0, 30))), some (.inr (.inr (0, 47))), none, none, none, none]) rfl ?_
  refine gz_iconst (pc := 16) dL_law__16 (v := 1) (by decide) ?_
  refine gz_newJ (pc := 17) (t := 0) (o := 59) (N := 1) dL_law__17 rfl (by decide) (by decide +kernel) (by decide) rfl rfl (by decide) (by decide) (by exact Nat.le_of_ble_eq_true rfl) gka_long.1 gka_long.2 ?_
  refine gz_astore_n (pc := 19) dL_law__19 (by decide) rfl (loc2 := [some (.inr (.inr (0, 61))), some (.inr (.inr (0, 30))), some (.inr (.inr (0, 47))), some (.inr (.inr (0, 59))), none, none, none]) rfl ?_
  refine gz_iconst (pc := 20) dL_law__20 (v := Int32.ofNat (6 * 0)) (by decide) ?_
  refine gz_istore (pc := 21) dL_law__21 (by decide) rfl (loc2 := [some (.inr (.inr (0, 61))), some (.inr (.inr (0, 30))), some (.inr (.inr (0, 47))), some (.inr (.inr (0, 59))), some (.inl (Int32.ofNat (6 * 0))), none, none]) rfl ?_
  exact law_loop hL (g.2.2.2.2.2 1 61) 0 0 gzI0 _ none none (by omega) (Nat.le_refl _) (by omega) gzR_start
