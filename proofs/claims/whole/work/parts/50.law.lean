/-! the law's body: each call by itself; L_ (49) tells what the class and the model answer -/
abbrev mLaw : gzMe := (x, code, 7, some FieldType.boolean)
def gzXs (g : gzG) (j : Nat) : Int32 := Int32.ofNat (g.2.2.2.2.2 j 62)
theorem gz_sld {g : gzG} {zm d : Nat} {y : gzMe} {pc : Nat} {loc : List (Option gzV)} {st : List gzV} {z : Nat} {Q : gzO → gzS → Prop} {S : gzS} {j : Nat} {a : Int32} (hd : decode y.2.1 pc = .ok (.iaload, 1)) (ha : a = Int32.ofNat j) (hj : j < g.2.2.2.2.2 1 61) (k : gzX g zm d y (pc + 1) loc (.inl (gzXs g j) :: st) S z Q) : gzX g zm d y pc loc (.inl a :: .inr (.inr (0, 61)) :: st) S z Q := by
  intro S0 p e R s m args below meth c H locs ls C h1 h2 hW h4 hl
  subst ha
  refine gz_old C hW h4 (fun hk hS => ?_)
  obtain ⟨-, -, -, -, -, -, -, f1, f2, f3⟩ := gz_cxF C
  obtain ⟨scr, x1, x2, x3, x4, x5⟩ := f2
  have hX : va_X (g.2.2.2.2.2 0 61) (g.2.2.2.2.2 1 61) (fun j => Int32.ofNat (g.2.2.2.2.2 j 62)) s s.heap := ⟨scr, by rw [hk _ f3 (gz_notA _ f3)]; exact x1, State.isArrayOf_alike (gz_cxW C).alike x2, x3, x4, x5⟩
  have hlt : j < 2 ^ 31 := by omega
  have hb : g.2.2.2.2.2 0 61 < s.heap.size := (Array.getElem?_eq_some_iff.mp (show s.heap[g.2.2.2.2.2 0 61]? = some scr by rw [hk _ f3 (gz_notA _ f3)]; exact x1)).1
  have kk := k S0 p e R s m args below meth c H locs ls C h1 h2 hW h4 hl
  refine va_sld (A := gzA g) (H0 := s.heap) C.1 C.2.1 hX hb (gz_notA _ f3) hS (i := Int32.ofNat j) (gz_vpd ⟨by rw [gzn_int hlt]; omega, by rw [gzn_clamp hlt]; exact hj⟩) hd ?_
  show W p g.1 e R s m args below meth c H locs _ _ _ (F0 m (pc + 1) ls (.int (Int32.ofNat (g.2.2.2.2.2 (Int32.ofNat j).toNatClampNeg 62)) :: st.map (gz_v g)))
  rw [gzn_clamp hlt]
  exact kk
theorem gz_slen {g : gzG} {zm d : Nat} {y : gzMe} {pc : Nat} {loc : List (Option gzV)} {st : List gzV} {z : Nat} {Q : gzO → gzS → Prop} {S : gzS} (hd : decode y.2.1 pc = .ok (.arraylength, 1)) (k : gzX g zm d y (pc + 1) loc (.inl (Int32.ofNat (g.2.2.2.2.2 1 61)) :: st) S z Q) : gzX g zm d y pc loc (.inr (.inr (0, 61)) :: st) S z Q := by
  intro S0 p e R s m args below meth c H locs ls C h1 h2 hW h4 hl
  refine gz_old C hW h4 (fun hk hS => ?_)
  obtain ⟨-, -, -, -, -, -, -, f1, f2, f3⟩ := gz_cxF C
  obtain ⟨scr, x1, x2, x3, x4, x5⟩ := f2
  have hX : va_X (g.2.2.2.2.2 0 61) (g.2.2.2.2.2 1 61) (fun j => Int32.ofNat (g.2.2.2.2.2 j 62)) s s.heap := ⟨scr, by rw [hk _ f3 (gz_notA _ f3)]; exact x1, State.isArrayOf_alike (gz_cxW C).alike x2, x3, x4, x5⟩
  have hb : g.2.2.2.2.2 0 61 < s.heap.size := (Array.getElem?_eq_some_iff.mp (show s.heap[g.2.2.2.2.2 0 61]? = some scr by rw [hk _ f3 (gz_notA _ f3)]; exact x1)).1
  exact va_slen (A := gzA g) (H0 := s.heap) C.1 C.2.1 hX hb (gz_notA _ f3) hS hd (k S0 p e R s m args below meth c H locs ls C h1 h2 hW h4 hl)
theorem gzHs_inj {hs : List String} {E : String} {a b : Nat} (hn : hs.Nodup) (ha : hs[a]? = some E) (hb : hs[b]? = some E) : a = b := by
  have h1 := (List.getElem?_eq_some_iff.mp ha)
  have h2 := (List.getElem?_eq_some_iff.mp hb)
  obtain ⟨p1, q1⟩ := h1
  obtain ⟨p2, q2⟩ := h2
  rcases Nat.lt_trichotomy a b with h | h | h
  · exact absurd (q1.trans q2.symm) (List.pairwise_iff_getElem.mp hn a b p1 p2 h)
  · exact h
  · exact absurd (q2.trans q1.symm) (List.pairwise_iff_getElem.mp hn b a p2 p1 h)
theorem gzHs_lt {hs : List String} {E : String} {a n : Nat} (ha : hs[a]? = some E) (h : hs.length ≤ n) : a < n := Nat.lt_of_lt_of_le (List.getElem?_eq_some_iff.mp ha).1 h
theorem gzHs_ne {k : Nat} (h : k < 2 ^ 20) : ¬ Int32.ofNat (k + 1) = 0 := by
  rw [gzc_eq2 (by omega) (by omega)]; omega
theorem gz_uj_s0 {J : gzJT} {v : Int64} : gz_uj J 0 59 0 v 0 59 0 = v := if_pos ⟨rfl, rfl, rfl⟩
theorem gz_cmp_self {a : Int64} : lg_cmp a a = 0 := by
  unfold lg_cmp
  simp
set_option maxRecDepth 20000 in
theorem b_0 {g : gzG} {d i z : Nat} {I : gzIT} {J : gzJT} {Q : gzO → gzS → Prop} (hi : i + 6 ≤ g.2.2.2.2.2 1 61) (hz : z + 1 ≤ 512) (h : gzR I I) (K : ∀ (l5 l6 : Option gzV) (I2 : gzIT) (J2 : gzJT) (z2 : Nat), gzR I2 I2 → z ≤ z2 → z2 ≤ z + 1 → gzX g 512 (d + 130) mLaw 2739 [some (.inr (.inr (0, 61))), some (.inr (.inr (0, 30))), some (.inr (.inr (0, 47))), some (.inr (.inr (0, 59))), some (.inl (Int32.ofNat i)), l5, l6] [] (gzN, gzR0, I2, J2) z2 Q) :
    gzX g 512 (d + 130) mLaw 284 [some (.inr (.inr (0, 61))), some (.inr (.inr (0, 30))), some (.inr (.inr (0, 47))), some (.inr (.inr (0, 59))), some (.inl (Int32.ofNat i)), none, none] [] (gzN, gzR0, I, J) z Q := by
  obtain ⟨v, I1, I2, J2, hf, hm, hR⟩ := L_feed (J := J) (gzXs g (i + 1)) (gzXs g (i + 2)) (gzXs g (i + 3)) (gzXs g (i + 4)) (gzXs g (i + 5)) h
  refine gz_aload_n (pc := 284) dL_law__284 rfl ?_
  refine gz_aload_n (pc := 285) dL_law__285 rfl ?_
  refine gz_iload (pc := 286) dL_law__286 rfl ?_
  refine gz_iconst (pc := 288) dL_law__288 (v := 1) (by decide) ?_
  refine gz_iadd (pc := 289) dL_law__289 ?_
  refine gz_sld (j := i + 1) (pc := 290) dL_law__290 (Int32.ofNat_add i 1).symm (by omega) ?_
  refine gz_aload_n (pc := 291) dL_law__291 rfl ?_
  refine gz_iload (pc := 292) dL_law__292 rfl ?_
  refine gz_iconst (pc := 294) dL_law__294 (v := 2) (by decide) ?_
  refine gz_iadd (pc := 295) dL_law__295 ?_
  refine gz_sld (j := i + 2) (pc := 296) dL_law__296 (Int32.ofNat_add i 2).symm (by omega) ?_
  refine gz_aload_n (pc := 297) dL_law__297 rfl ?_
  refine gz_iload (pc := 298) dL_law__298 rfl ?_
  refine gz_iconst (pc := 300) dL_law__300 (v := 3) (by decide) ?_
  refine gz_iadd (pc := 301) dL_law__301 ?_
  refine gz_sld (j := i + 3) (pc := 302) dL_law__302 (Int32.ofNat_add i 3).symm (by omega) ?_
  refine gz_aload_n (pc := 303) dL_law__303 rfl ?_
  refine gz_iload (pc := 304) dL_law__304 rfl ?_
  refine gz_iconst (pc := 306) dL_law__306 (v := 4) (by decide) ?_
  refine gz_iadd (pc := 307) dL_law__307 ?_
  refine gz_sld (j := i + 4) (pc := 308) dL_law__308 (Int32.ofNat_add i 4).symm (by omega) ?_
  refine gz_aload_n (pc := 309) dL_law__309 rfl ?_
  refine gz_iload (pc := 310) dL_law__310 rfl ?_
  refine gz_iconst (pc := 312) dL_law__312 (v := 5) (by decide) ?_
  refine gz_iadd (pc := 313) dL_law__313 ?_
  refine gz_sld (j := i + 5) (pc := 314) dL_law__314 (Int32.ofNat_add i 5).symm (by omega) ?_
  refine gz_V (zy := mX11_feed) (zc := 0) (d := d + 129) (pc := 315) (t := 0) (o := 30) (ci := 11) (r := (RX11, TX11, 13)) [.inl (gzXs g (i + 1)), .inl (gzXs g (i + 2)), .inl (gzXs g (i + 3)), .inl (gzXs g (i + 4)), .inl (gzXs g (i + 5))] rfl dL_law__315 lkL_119 MvX11_feed rfl (gzOk_of (by decide)) rfl rfl rfl (Or.inr rfl) (fun h => h) (by exact Nat.le_of_ble_eq_true rfl) ?_
  refine gz_useI (d := d + 129) (c_X11_feed (d := d + 128) hf) ?_
  refine gz_aload_n (pc := 318) dL_law__318 rfl ?_
  refine gz_aload_n (pc := 319) dL_law__319 rfl ?_
  refine gz_iload (pc := 320) dL_law__320 rfl ?_
  refine gz_iconst (pc := 322) dL_law__322 (v := 1) (by decide) ?_
  refine gz_iadd (pc := 323) dL_law__323 ?_
  refine gz_sld (j := i + 1) (pc := 324) dL_law__324 (Int32.ofNat_add i 1).symm (by omega) ?_
  refine gz_aload_n (pc := 325) dL_law__325 rfl ?_
  refine gz_iload (pc := 326) dL_law__326 rfl ?_
  refine gz_iconst (pc := 328) dL_law__328 (v := 2) (by decide) ?_
  refine gz_iadd (pc := 329) dL_law__329 ?_
  refine gz_sld (j := i + 2) (pc := 330) dL_law__330 (Int32.ofNat_add i 2).symm (by omega) ?_
  refine gz_aload_n (pc := 331) dL_law__331 rfl ?_
  refine gz_iload (pc := 332) dL_law__332 rfl ?_
  refine gz_iconst (pc := 334) dL_law__334 (v := 3) (by decide) ?_
  refine gz_iadd (pc := 335) dL_law__335 ?_
  refine gz_sld (j := i + 3) (pc := 336) dL_law__336 (Int32.ofNat_add i 3).symm (by omega) ?_
  refine gz_aload_n (pc := 337) dL_law__337 rfl ?_
  refine gz_iload (pc := 338) dL_law__338 rfl ?_
  refine gz_iconst (pc := 340) dL_law__340 (v := 4) (by decide) ?_
  refine gz_iadd (pc := 341) dL_law__341 ?_
  refine gz_sld (j := i + 4) (pc := 342) dL_law__342 (Int32.ofNat_add i 4).symm (by omega) ?_
  refine gz_aload_n (pc := 343) dL_law__343 rfl ?_
  refine gz_iload (pc := 344) dL_law__344 rfl ?_
  refine gz_iconst (pc := 346) dL_law__346 (v := 5) (by decide) ?_
  refine gz_iadd (pc := 347) dL_law__347 ?_
  refine gz_sld (j := i + 5) (pc := 348) dL_law__348 (Int32.ofNat_add i 5).symm (by omega) ?_
  refine gz_V (zy := mX12_feed) (zc := 0) (d := d + 129) (pc := 349) (t := 0) (o := 47) (ci := 12) (r := (RX12, TX12, 21)) [.inl (gzXs g (i + 1)), .inl (gzXs g (i + 2)), .inl (gzXs g (i + 3)), .inl (gzXs g (i + 4)), .inl (gzXs g (i + 5))] rfl dL_law__349 lkL_123 MvX12_feed rfl (gzOk_of (by decide)) rfl rfl rfl (Or.inr rfl) (fun h => h) (by exact Nat.le_of_ble_eq_true rfl) ?_
  refine gz_useI (d := d + 129) (c_X12_feed (d := d + 129) hm) ?_
  refine gz_ic_eq (pc := 352) (tgt := 2739) dL_law__352 (by decide) (fun _ => ?_) (fun c => absurd rfl c)
  exact K _ _ _ _ _ hR (Nat.le_refl _) (by omega)
set_option maxRecDepth 20000 in
theorem b_1 {g : gzG} {d i z : Nat} {I : gzIT} {J : gzJT} {Q : gzO → gzS → Prop} (hi : i + 6 ≤ g.2.2.2.2.2 1 61) (hz : z + 1 ≤ 512) (h : gzR I I) (K : ∀ (l5 l6 : Option gzV) (I2 : gzIT) (J2 : gzJT) (z2 : Nat), gzR I2 I2 → z ≤ z2 → z2 ≤ z + 1 → gzX g 512 (d + 130) mLaw 2739 [some (.inr (.inr (0, 61))), some (.inr (.inr (0, 30))), some (.inr (.inr (0, 47))), some (.inr (.inr (0, 59))), some (.inl (Int32.ofNat i)), l5, l6] [] (gzN, gzR0, I2, J2) z2 Q) :
    gzX g 512 (d + 130) mLaw 357 [some (.inr (.inr (0, 61))), some (.inr (.inr (0, 30))), some (.inr (.inr (0, 47))), some (.inr (.inr (0, 59))), some (.inl (Int32.ofNat i)), none, none] [] (gzN, gzR0, I, J) z Q := by
  obtain ⟨v, I1, I2, J2, hf, hm, hR⟩ := L_end (J := J) (gzXs g (i + 1)) h
  refine gz_aload_n (pc := 357) dL_law__357 rfl ?_
  refine gz_aload_n (pc := 358) dL_law__358 rfl ?_
  refine gz_iload (pc := 359) dL_law__359 rfl ?_
  refine gz_iconst (pc := 361) dL_law__361 (v := 1) (by decide) ?_
  refine gz_iadd (pc := 362) dL_law__362 ?_
  refine gz_sld (j := i + 1) (pc := 363) dL_law__363 (Int32.ofNat_add i 1).symm (by omega) ?_
  refine gz_V (zy := mX11_end) (zc := 0) (d := d + 129) (pc := 364) (t := 0) (o := 30) (ci := 11) (r := (RX11, TX11, 13)) [.inl (gzXs g (i + 1))] rfl dL_law__364 lkL_124 MvX11_end rfl (gzOk_of (by decide)) rfl rfl rfl (Or.inr rfl) (fun h => h) (by exact Nat.le_of_ble_eq_true rfl) ?_
  refine gz_useI (d := d + 129) (c_X11_end (d := d + 129) hf) ?_
  refine gz_aload_n (pc := 367) dL_law__367 rfl ?_
  refine gz_aload_n (pc := 368) dL_law__368 rfl ?_
  refine gz_iload (pc := 369) dL_law__369 rfl ?_
  refine gz_iconst (pc := 371) dL_law__371 (v := 1) (by decide) ?_
  refine gz_iadd (pc := 372) dL_law__372 ?_
  refine gz_sld (j := i + 1) (pc := 373) dL_law__373 (Int32.ofNat_add i 1).symm (by omega) ?_
  refine gz_V (zy := mX12_end) (zc := 0) (d := d + 129) (pc := 374) (t := 0) (o := 47) (ci := 12) (r := (RX12, TX12, 21)) [.inl (gzXs g (i + 1))] rfl dL_law__374 lkL_127 MvX12_end rfl (gzOk_of (by decide)) rfl rfl rfl (Or.inr rfl) (fun h => h) (by exact Nat.le_of_ble_eq_true rfl) ?_
  refine gz_useI (d := d + 129) (c_X12_end (d := d + 129) hm) ?_
  refine gz_ic_eq (pc := 377) (tgt := 2739) dL_law__377 (by decide) (fun _ => ?_) (fun c => absurd rfl c)
  exact K _ _ _ _ _ hR (Nat.le_refl _) (by omega)
set_option maxRecDepth 20000 in
theorem b_2 {g : gzG} {d i z : Nat} {I : gzIT} {J : gzJT} {Q : gzO → gzS → Prop} (hi : i + 6 ≤ g.2.2.2.2.2 1 61) (hz : z + 1 ≤ 512) (h : gzR I I) (K : ∀ (l5 l6 : Option gzV) (I2 : gzIT) (J2 : gzJT) (z2 : Nat), gzR I2 I2 → z ≤ z2 → z2 ≤ z + 1 → gzX g 512 (d + 130) mLaw 2739 [some (.inr (.inr (0, 61))), some (.inr (.inr (0, 30))), some (.inr (.inr (0, 47))), some (.inr (.inr (0, 59))), some (.inl (Int32.ofNat i)), l5, l6] [] (gzN, gzR0, I2, J2) z2 Q) :
    gzX g 512 (d + 130) mLaw 382 [some (.inr (.inr (0, 61))), some (.inr (.inr (0, 30))), some (.inr (.inr (0, 47))), some (.inr (.inr (0, 59))), some (.inl (Int32.ofNat i)), none, none] [] (gzN, gzR0, I, J) z Q := by
  obtain ⟨e, I1, hf, hE, hM⟩ := L_town (J := J) h
  refine gz_aload_n (pc := 382) dL_law__382 rfl ?_
  refine gz_aload_n (pc := 383) dL_law__383 rfl ?_
  refine gz_SH (zy := mL_town) (hh := hL_town) (zc := 1) (d := d + 129) (pc := 384) [.inr (.inr (0, 30)), .inr (.inr (0, 59))] rfl dL_law__384 lhL_town MhL_town rfl (Or.inr rfl) (fun _ => by omega) (by exact Nat.le_of_ble_eq_true rfl) ?_
  refine gzCh.mono (h_L_town (d := d + 68) hf hE) ?_
  cases e with
  | ok v0 =>
    rintro _ _ ⟨rfl, rfl⟩
    obtain ⟨v, I2, J2, hm, hs, hj, hR⟩ := hM (gz_uj J 0 59 0 (gzCvI v0))
    obtain ⟨rfl, hth⟩ := hs
    show gzX g 512 (d + 130) mLaw 387 [some (.inr (.inr (0, 61))), some (.inr (.inr (0, 30))), some (.inr (.inr (0, 47))), some (.inr (.inr (0, 59))), some (.inl (Int32.ofNat i)), none, none] [.inl 0] (gzN, gzR0, I1, gz_uj J 0 59 0 (gzCvI v0)) (z + 1) Q
    refine gz_istore (pc := 387) dL_law__387 (by decide) rfl (loc2 := [some (.inr (.inr (0, 61))), some (.inr (.inr (0, 30))), some (.inr (.inr (0, 47))), some (.inr (.inr (0, 59))), some (.inl (Int32.ofNat i)), some (.inl 0), none]) rfl ?_
    refine gz_aload_n (pc := 389) dL_law__389 rfl ?_
    refine gz_V (zy := mX12_town) (zc := 0) (d := d + 129) (pc := 390) (t := 0) (o := 47) (ci := 12) (r := (RX12, TX12, 21)) [] rfl dL_law__390 lkL_133 MvX12_town rfl (gzOk_of (by decide)) rfl rfl rfl (Or.inr rfl) (fun h => h) (by exact Nat.le_of_ble_eq_true rfl) ?_
    refine gz_useI (d := d + 129) (c_X12_town (d := d + 6) hm) ?_
    refine gz_istore (pc := 393) dL_law__393 (by decide) rfl (loc2 := [some (.inr (.inr (0, 61))), some (.inr (.inr (0, 30))), some (.inr (.inr (0, 47))), some (.inr (.inr (0, 59))), some (.inl (Int32.ofNat i)), some (.inl 0), some (.inl v0)]) rfl ?_
    refine gz_aload_n (pc := 395) dL_law__395 rfl ?_
    refine gz_V (zy := mX12_thrown) (zc := 0) (d := d + 129) (pc := 396) (t := 0) (o := 47) (ci := 12) (r := (RX12, TX12, 21)) [] rfl dL_law__396 lkL_134 MvX12_thrown rfl (gzOk_of (by decide)) rfl rfl rfl (Or.inr rfl) (fun h => h) (by exact Nat.le_of_ble_eq_true rfl) ?_
    refine gz_useI (d := d + 129) (c_X12_thrown (d := d + 129) rfl) ?_
    dsimp only
    rw [hth]
    refine gz_iload (pc := 399) dL_law__399 rfl ?_
    refine gz_ic_eq (pc := 401) (tgt := 406) dL_law__401 (by decide) (fun _ => ?_) (fun c => absurd rfl c)
    refine gz_iload (pc := 406) dL_law__406 rfl ?_
    refine gz_if_ne (pc := 408) (tgt := 423) dL_law__408 (by decide) (fun c => absurd rfl c) (fun _ => ?_)
    refine gz_aload_n (pc := 411) dL_law__411 rfl ?_
    refine gz_iconst (pc := 412) dL_law__412 (v := 0) (by decide) ?_
    refine gz_lald (N := 1) (pc := 413) dL_law__413 (gzOk_of (by decide)) rfl (gz_vpd (by decide)) ?_
    rw [show J2 0 59 (0 : Int32).toNatClampNeg = gzCvI v0 from hj.trans gz_uj_s0]
    refine gz_iload (pc := 414) dL_law__414 rfl ?_
    refine gz_i2l (pc := 416) dL_law__416 ?_
    refine gz_lcmp (pc := 417) dL_law__417 ?_
    first | rw [show lg_cmp (gzCvI v0) v0.toInt64 = 0 from gz_cmp_self] | rw [gz_cmp_self]
    refine gz_if_eq (pc := 418) (tgt := 423) dL_law__418 (by decide) (fun _ => ?_) (fun c => absurd rfl c)
    refine gz_goto (pc := 423) (tgt := 2739) dL_law__423 (by decide) ?_
    exact K _ _ _ _ _ hR (by omega) (by omega)
  | error E =>
    rintro _ _ ⟨kk, hk, rfl, rfl⟩
    obtain ⟨v, I2, J2, hm, ⟨k2, hk2, hth⟩, hj, hR⟩ := hM J
    have ekk : k2 = kk := gzHs_inj (by decide) hk2 hk
    subst ekk
    have hkl : k2 < 2 ^ 20 := gzHs_lt hk (by decide)
    show gzX g 512 (d + 130) mLaw 387 [some (.inr (.inr (0, 61))), some (.inr (.inr (0, 30))), some (.inr (.inr (0, 47))), some (.inr (.inr (0, 59))), some (.inl (Int32.ofNat i)), none, none] [.inl (Int32.ofNat (k2 + 1))] (gzN, gzR0, I1, J) (z + 1) Q
    refine gz_istore (pc := 387) dL_law__387 (by decide) rfl (loc2 := [some (.inr (.inr (0, 61))), some (.inr (.inr (0, 30))), some (.inr (.inr (0, 47))), some (.inr (.inr (0, 59))), some (.inl (Int32.ofNat i)), some (.inl (Int32.ofNat (k2 + 1))), none]) rfl ?_
    refine gz_aload_n (pc := 389) dL_law__389 rfl ?_
    refine gz_V (zy := mX12_town) (zc := 0) (d := d + 129) (pc := 390) (t := 0) (o := 47) (ci := 12) (r := (RX12, TX12, 21)) [] rfl dL_law__390 lkL_133 MvX12_town rfl (gzOk_of (by decide)) rfl rfl rfl (Or.inr rfl) (fun h => h) (by exact Nat.le_of_ble_eq_true rfl) ?_
    refine gz_useI (d := d + 129) (c_X12_town (d := d + 6) hm) ?_
    refine gz_istore (pc := 393) dL_law__393 (by decide) rfl (loc2 := [some (.inr (.inr (0, 61))), some (.inr (.inr (0, 30))), some (.inr (.inr (0, 47))), some (.inr (.inr (0, 59))), some (.inl (Int32.ofNat i)), some (.inl (Int32.ofNat (k2 + 1))), some (.inl v)]) rfl ?_
    refine gz_aload_n (pc := 395) dL_law__395 rfl ?_
    refine gz_V (zy := mX12_thrown) (zc := 0) (d := d + 129) (pc := 396) (t := 0) (o := 47) (ci := 12) (r := (RX12, TX12, 21)) [] rfl dL_law__396 lkL_134 MvX12_thrown rfl (gzOk_of (by decide)) rfl rfl rfl (Or.inr rfl) (fun h => h) (by exact Nat.le_of_ble_eq_true rfl) ?_
    refine gz_useI (d := d + 129) (c_X12_thrown (d := d + 129) rfl) ?_
    dsimp only
    rw [hth]
    refine gz_iload (pc := 399) dL_law__399 rfl ?_
    refine gz_ic_eq (pc := 401) (tgt := 406) dL_law__401 (by decide) (fun _ => ?_) (fun c => absurd rfl c)
    refine gz_iload (pc := 406) dL_law__406 rfl ?_
    refine gz_if_ne (pc := 408) (tgt := 423) dL_law__408 (by decide) (fun _ => ?_) (fun c => absurd c (gzHs_ne hkl))
    refine gz_goto (pc := 423) (tgt := 2739) dL_law__423 (by decide) ?_
    exact K _ _ _ _ _ hR (by omega) (by omega)
set_option maxRecDepth 20000 in
theorem b_3 {g : gzG} {d i z : Nat} {I : gzIT} {J : gzJT} {Q : gzO → gzS → Prop} (hi : i + 6 ≤ g.2.2.2.2.2 1 61) (hz : z + 1 ≤ 512) (h : gzR I I) (K : ∀ (l5 l6 : Option gzV) (I2 : gzIT) (J2 : gzJT) (z2 : Nat), gzR I2 I2 → z ≤ z2 → z2 ≤ z + 1 → gzX g 512 (d + 130) mLaw 2739 [some (.inr (.inr (0, 61))), some (.inr (.inr (0, 30))), some (.inr (.inr (0, 47))), some (.inr (.inr (0, 59))), some (.inl (Int32.ofNat i)), l5, l6] [] (gzN, gzR0, I2, J2) z2 Q) :
    gzX g 512 (d + 130) mLaw 426 [some (.inr (.inr (0, 61))), some (.inr (.inr (0, 30))), some (.inr (.inr (0, 47))), some (.inr (.inr (0, 59))), some (.inl (Int32.ofNat i)), none, none] [] (gzN, gzR0, I, J) z Q := by
  obtain ⟨e, I1, hf, hE, hM⟩ := L_law (J := J) h
  refine gz_aload_n (pc := 426) dL_law__426 rfl ?_
  refine gz_aload_n (pc := 427) dL_law__427 rfl ?_
  refine gz_SH (zy := mL_law) (hh := hL_law) (zc := 1) (d := d + 129) (pc := 428) [.inr (.inr (0, 30)), .inr (.inr (0, 59))] rfl dL_law__428 lhL_law MhL_law rfl (Or.inr rfl) (fun _ => by omega) (by exact Nat.le_of_ble_eq_true rfl) ?_
  refine gzCh.mono (h_L_law (d := d + 68) hf hE) ?_
  cases e with
  | ok v0 =>
    rintro _ _ ⟨rfl, rfl⟩
    obtain ⟨v, I2, J2, hm, hs, hj, hR⟩ := hM (gz_uj J 0 59 0 (gzCvI v0))
    obtain ⟨rfl, hth⟩ := hs
    show gzX g 512 (d + 130) mLaw 431 [some (.inr (.inr (0, 61))), some (.inr (.inr (0, 30))), some (.inr (.inr (0, 47))), some (.inr (.inr (0, 59))), some (.inl (Int32.ofNat i)), none, none] [.inl 0] (gzN, gzR0, I1, gz_uj J 0 59 0 (gzCvI v0)) (z + 1) Q
    refine gz_istore (pc := 431) dL_law__431 (by decide) rfl (loc2 := [some (.inr (.inr (0, 61))), some (.inr (.inr (0, 30))), some (.inr (.inr (0, 47))), some (.inr (.inr (0, 59))), some (.inl (Int32.ofNat i)), some (.inl 0), none]) rfl ?_
    refine gz_aload_n (pc := 433) dL_law__433 rfl ?_
    refine gz_V (zy := mX12_law) (zc := 0) (d := d + 129) (pc := 434) (t := 0) (o := 47) (ci := 12) (r := (RX12, TX12, 21)) [] rfl dL_law__434 lkL_139 MvX12_law rfl (gzOk_of (by decide)) rfl rfl rfl (Or.inr rfl) (fun h => h) (by exact Nat.le_of_ble_eq_true rfl) ?_
    refine gz_useI (d := d + 129) (c_X12_law (d := d + 6) hm) ?_
    refine gz_istore (pc := 437) dL_law__437 (by decide) rfl (loc2 := [some (.inr (.inr (0, 61))), some (.inr (.inr (0, 30))), some (.inr (.inr (0, 47))), some (.inr (.inr (0, 59))), some (.inl (Int32.ofNat i)), some (.inl 0), some (.inl v0)]) rfl ?_
    refine gz_aload_n (pc := 439) dL_law__439 rfl ?_
    refine gz_V (zy := mX12_thrown) (zc := 0) (d := d + 129) (pc := 440) (t := 0) (o := 47) (ci := 12) (r := (RX12, TX12, 21)) [] rfl dL_law__440 lkL_134 MvX12_thrown rfl (gzOk_of (by decide)) rfl rfl rfl (Or.inr rfl) (fun h => h) (by exact Nat.le_of_ble_eq_true rfl) ?_
    refine gz_useI (d := d + 129) (c_X12_thrown (d := d + 129) rfl) ?_
    dsimp only
    rw [hth]
    refine gz_iload (pc := 443) dL_law__443 rfl ?_
    refine gz_ic_eq (pc := 445) (tgt := 450) dL_law__445 (by decide) (fun _ => ?_) (fun c => absurd rfl c)
    refine gz_iload (pc := 450) dL_law__450 rfl ?_
    refine gz_if_ne (pc := 452) (tgt := 467) dL_law__452 (by decide) (fun c => absurd rfl c) (fun _ => ?_)
    refine gz_aload_n (pc := 455) dL_law__455 rfl ?_
    refine gz_iconst (pc := 456) dL_law__456 (v := 0) (by decide) ?_
    refine gz_lald (N := 1) (pc := 457) dL_law__457 (gzOk_of (by decide)) rfl (gz_vpd (by decide)) ?_
    rw [show J2 0 59 (0 : Int32).toNatClampNeg = gzCvI v0 from hj.trans gz_uj_s0]
    refine gz_iload (pc := 458) dL_law__458 rfl ?_
    refine gz_i2l (pc := 460) dL_law__460 ?_
    refine gz_lcmp (pc := 461) dL_law__461 ?_
    first | rw [show lg_cmp (gzCvI v0) v0.toInt64 = 0 from gz_cmp_self] | rw [gz_cmp_self]
    refine gz_if_eq (pc := 462) (tgt := 467) dL_law__462 (by decide) (fun _ => ?_) (fun c => absurd rfl c)
    refine gz_goto (pc := 467) (tgt := 2739) dL_law__467 (by decide) ?_
    exact K _ _ _ _ _ hR (by omega) (by omega)
  | error E =>
    rintro _ _ ⟨kk, hk, rfl, rfl⟩
    obtain ⟨v, I2, J2, hm, ⟨k2, hk2, hth⟩, hj, hR⟩ := hM J
    have ekk : k2 = kk := gzHs_inj (by decide) hk2 hk
    subst ekk
    have hkl : k2 < 2 ^ 20 := gzHs_lt hk (by decide)
    show gzX g 512 (d + 130) mLaw 431 [some (.inr (.inr (0, 61))), some (.inr (.inr (0, 30))), some (.inr (.inr (0, 47))), some (.inr (.inr (0, 59))), some (.inl (Int32.ofNat i)), none, none] [.inl (Int32.ofNat (k2 + 1))] (gzN, gzR0, I1, J) (z + 1) Q
    refine gz_istore (pc := 431) dL_law__431 (by decide) rfl (loc2 := [some (.inr (.inr (0, 61))), some (.inr (.inr (0, 30))), some (.inr (.inr (0, 47))), some (.inr (.inr (0, 59))), some (.inl (Int32.ofNat i)), some (.inl (Int32.ofNat (k2 + 1))), none]) rfl ?_
    refine gz_aload_n (pc := 433) dL_law__433 rfl ?_
    refine gz_V (zy := mX12_law) (zc := 0) (d := d + 129) (pc := 434) (t := 0) (o := 47) (ci := 12) (r := (RX12, TX12, 21)) [] rfl dL_law__434 lkL_139 MvX12_law rfl (gzOk_of (by decide)) rfl rfl rfl (Or.inr rfl) (fun h => h) (by exact Nat.le_of_ble_eq_true rfl) ?_
    refine gz_useI (d := d + 129) (c_X12_law (d := d + 6) hm) ?_
    refine gz_istore (pc := 437) dL_law__437 (by decide) rfl (loc2 := [some (.inr (.inr (0, 61))), some (.inr (.inr (0, 30))), some (.inr (.inr (0, 47))), some (.inr (.inr (0, 59))), some (.inl (Int32.ofNat i)), some (.inl (Int32.ofNat (k2 + 1))), some (.inl v)]) rfl ?_
    refine gz_aload_n (pc := 439) dL_law__439 rfl ?_
    refine gz_V (zy := mX12_thrown) (zc := 0) (d := d + 129) (pc := 440) (t := 0) (o := 47) (ci := 12) (r := (RX12, TX12, 21)) [] rfl dL_law__440 lkL_134 MvX12_thrown rfl (gzOk_of (by decide)) rfl rfl rfl (Or.inr rfl) (fun h => h) (by exact Nat.le_of_ble_eq_true rfl) ?_
    refine gz_useI (d := d + 129) (c_X12_thrown (d := d + 129) rfl) ?_
    dsimp only
    rw [hth]
    refine gz_iload (pc := 443) dL_law__443 rfl ?_
    refine gz_ic_eq (pc := 445) (tgt := 450) dL_law__445 (by decide) (fun _ => ?_) (fun c => absurd rfl c)
    refine gz_iload (pc := 450) dL_law__450 rfl ?_
    refine gz_if_ne (pc := 452) (tgt := 467) dL_law__452 (by decide) (fun _ => ?_) (fun c => absurd c (gzHs_ne hkl))
    refine gz_goto (pc := 467) (tgt := 2739) dL_law__467 (by decide) ?_
    exact K _ _ _ _ _ hR (by omega) (by omega)
set_option maxRecDepth 20000 in
theorem b_4 {g : gzG} {d i z : Nat} {I : gzIT} {J : gzJT} {Q : gzO → gzS → Prop} (hi : i + 6 ≤ g.2.2.2.2.2 1 61) (hz : z + 1 ≤ 512) (h : gzR I I) (K : ∀ (l5 l6 : Option gzV) (I2 : gzIT) (J2 : gzJT) (z2 : Nat), gzR I2 I2 → z ≤ z2 → z2 ≤ z + 1 → gzX g 512 (d + 130) mLaw 2739 [some (.inr (.inr (0, 61))), some (.inr (.inr (0, 30))), some (.inr (.inr (0, 47))), some (.inr (.inr (0, 59))), some (.inl (Int32.ofNat i)), l5, l6] [] (gzN, gzR0, I2, J2) z2 Q) :
    gzX g 512 (d + 130) mLaw 470 [some (.inr (.inr (0, 61))), some (.inr (.inr (0, 30))), some (.inr (.inr (0, 47))), some (.inr (.inr (0, 59))), some (.inl (Int32.ofNat i)), none, none] [] (gzN, gzR0, I, J) z Q := by
  obtain ⟨v, I2, J2, hf, hm, hR⟩ := L_fault (J := J) h
  refine gz_aload_n (pc := 470) dL_law__470 rfl ?_
  refine gz_V (zy := mX11_fault) (zc := 0) (d := d + 129) (pc := 471) (t := 0) (o := 30) (ci := 11) (r := (RX11, TX11, 13)) [] rfl dL_law__471 lkL_140 MvX11_fault rfl (gzOk_of (by decide)) rfl rfl rfl (Or.inr rfl) (fun h => h) (by exact Nat.le_of_ble_eq_true rfl) ?_
  refine gz_useI (d := d + 129) (c_X11_fault (d := d + 129) hf) ?_
  refine gz_aload_n (pc := 474) dL_law__474 rfl ?_
  refine gz_V (zy := mX12_fault) (zc := 0) (d := d + 129) (pc := 475) (t := 0) (o := 47) (ci := 12) (r := (RX12, TX12, 21)) [] rfl dL_law__475 lkL_143 MvX12_fault rfl (gzOk_of (by decide)) rfl rfl rfl (Or.inr rfl) (fun h => h) (by exact Nat.le_of_ble_eq_true rfl) ?_
  refine gz_useI (d := d + 129) (c_X12_fault (d := d + 129) hm) ?_
  refine gz_ic_eq (pc := 478) (tgt := 2739) dL_law__478 (by decide) (fun _ => ?_) (fun c => absurd rfl c)
  exact K _ _ _ _ _ hR (Nat.le_refl _) (by omega)
set_option maxRecDepth 20000 in
theorem b_5 {g : gzG} {d i z : Nat} {I : gzIT} {J : gzJT} {Q : gzO → gzS → Prop} (hi : i + 6 ≤ g.2.2.2.2.2 1 61) (hz : z + 1 ≤ 512) (h : gzR I I) (K : ∀ (l5 l6 : Option gzV) (I2 : gzIT) (J2 : gzJT) (z2 : Nat), gzR I2 I2 → z ≤ z2 → z2 ≤ z + 1 → gzX g 512 (d + 130) mLaw 2739 [some (.inr (.inr (0, 61))), some (.inr (.inr (0, 30))), some (.inr (.inr (0, 47))), some (.inr (.inr (0, 59))), some (.inl (Int32.ofNat i)), l5, l6] [] (gzN, gzR0, I2, J2) z2 Q) :
    gzX g 512 (d + 130) mLaw 483 [some (.inr (.inr (0, 61))), some (.inr (.inr (0, 30))), some (.inr (.inr (0, 47))), some (.inr (.inr (0, 59))), some (.inl (Int32.ofNat i)), none, none] [] (gzN, gzR0, I, J) z Q := by
  obtain ⟨e, I1, hf, hE, hM⟩ := L_family (J := J) (gzXs g (i + 1)) (gzXs g (i + 2)) h
  refine gz_aload_n (pc := 483) dL_law__483 rfl ?_
  refine gz_aload_n (pc := 484) dL_law__484 rfl ?_
  refine gz_iload (pc := 485) dL_law__485 rfl ?_
  refine gz_iconst (pc := 487) dL_law__487 (v := 1) (by decide) ?_
  refine gz_iadd (pc := 488) dL_law__488 ?_
  refine gz_sld (j := i + 1) (pc := 489) dL_law__489 (Int32.ofNat_add i 1).symm (by omega) ?_
  refine gz_aload_n (pc := 490) dL_law__490 rfl ?_
  refine gz_iload (pc := 491) dL_law__491 rfl ?_
  refine gz_iconst (pc := 493) dL_law__493 (v := 2) (by decide) ?_
  refine gz_iadd (pc := 494) dL_law__494 ?_
  refine gz_sld (j := i + 2) (pc := 495) dL_law__495 (Int32.ofNat_add i 2).symm (by omega) ?_
  refine gz_aload_n (pc := 496) dL_law__496 rfl ?_
  refine gz_SH (zy := mL_family) (hh := hL_family) (zc := 1) (d := d + 129) (pc := 497) [.inr (.inr (0, 30)), .inl (gzXs g (i + 1)), .inl (gzXs g (i + 2)), .inr (.inr (0, 59))] rfl dL_law__497 lhL_family MhL_family rfl (Or.inr rfl) (fun _ => by omega) (by exact Nat.le_of_ble_eq_true rfl) ?_
  refine gzCh.mono (h_L_family (d := d + 68) hf hE) ?_
  cases e with
  | ok v0 =>
    rintro _ _ ⟨rfl, rfl⟩
    obtain ⟨v, I2, J2, hm, hs, hj, hR⟩ := hM (gz_uj J 0 59 0 (gzCvI v0))
    obtain ⟨rfl, hth⟩ := hs
    show gzX g 512 (d + 130) mLaw 500 [some (.inr (.inr (0, 61))), some (.inr (.inr (0, 30))), some (.inr (.inr (0, 47))), some (.inr (.inr (0, 59))), some (.inl (Int32.ofNat i)), none, none] [.inl 0] (gzN, gzR0, I1, gz_uj J 0 59 0 (gzCvI v0)) (z + 1) Q
    refine gz_istore (pc := 500) dL_law__500 (by decide) rfl (loc2 := [some (.inr (.inr (0, 61))), some (.inr (.inr (0, 30))), some (.inr (.inr (0, 47))), some (.inr (.inr (0, 59))), some (.inl (Int32.ofNat i)), some (.inl 0), none]) rfl ?_
    refine gz_aload_n (pc := 502) dL_law__502 rfl ?_
    refine gz_aload_n (pc := 503) dL_law__503 rfl ?_
    refine gz_iload (pc := 504) dL_law__504 rfl ?_
    refine gz_iconst (pc := 506) dL_law__506 (v := 1) (by decide) ?_
    refine gz_iadd (pc := 507) dL_law__507 ?_
    refine gz_sld (j := i + 1) (pc := 508) dL_law__508 (Int32.ofNat_add i 1).symm (by omega) ?_
    refine gz_aload_n (pc := 509) dL_law__509 rfl ?_
    refine gz_iload (pc := 510) dL_law__510 rfl ?_
    refine gz_iconst (pc := 512) dL_law__512 (v := 2) (by decide) ?_
    refine gz_iadd (pc := 513) dL_law__513 ?_
    refine gz_sld (j := i + 2) (pc := 514) dL_law__514 (Int32.ofNat_add i 2).symm (by omega) ?_
    refine gz_V (zy := mX12_family) (zc := 0) (d := d + 129) (pc := 515) (t := 0) (o := 47) (ci := 12) (r := (RX12, TX12, 21)) [.inl (gzXs g (i + 1)), .inl (gzXs g (i + 2))] rfl dL_law__515 lkL_147 MvX12_family rfl (gzOk_of (by decide)) rfl rfl rfl (Or.inr rfl) (fun h => h) (by exact Nat.le_of_ble_eq_true rfl) ?_
    refine gz_useI (d := d + 129) (c_X12_family (d := d + 119) hm) ?_
    refine gz_istore (pc := 518) dL_law__518 (by decide) rfl (loc2 := [some (.inr (.inr (0, 61))), some (.inr (.inr (0, 30))), some (.inr (.inr (0, 47))), some (.inr (.inr (0, 59))), some (.inl (Int32.ofNat i)), some (.inl 0), some (.inl v0)]) rfl ?_
    refine gz_aload_n (pc := 520) dL_law__520 rfl ?_
    refine gz_V (zy := mX12_thrown) (zc := 0) (d := d + 129) (pc := 521) (t := 0) (o := 47) (ci := 12) (r := (RX12, TX12, 21)) [] rfl dL_law__521 lkL_134 MvX12_thrown rfl (gzOk_of (by decide)) rfl rfl rfl (Or.inr rfl) (fun h => h) (by exact Nat.le_of_ble_eq_true rfl) ?_
    refine gz_useI (d := d + 129) (c_X12_thrown (d := d + 129) rfl) ?_
    dsimp only
    rw [hth]
    refine gz_iload (pc := 524) dL_law__524 rfl ?_
    refine gz_ic_eq (pc := 526) (tgt := 531) dL_law__526 (by decide) (fun _ => ?_) (fun c => absurd rfl c)
    refine gz_iload (pc := 531) dL_law__531 rfl ?_
    refine gz_if_ne (pc := 533) (tgt := 548) dL_law__533 (by decide) (fun c => absurd rfl c) (fun _ => ?_)
    refine gz_aload_n (pc := 536) dL_law__536 rfl ?_
    refine gz_iconst (pc := 537) dL_law__537 (v := 0) (by decide) ?_
    refine gz_lald (N := 1) (pc := 538) dL_law__538 (gzOk_of (by decide)) rfl (gz_vpd (by decide)) ?_
    rw [show J2 0 59 (0 : Int32).toNatClampNeg = gzCvI v0 from hj.trans gz_uj_s0]
    refine gz_iload (pc := 539) dL_law__539 rfl ?_
    refine gz_i2l (pc := 541) dL_law__541 ?_
    refine gz_lcmp (pc := 542) dL_law__542 ?_
    first | rw [show lg_cmp (gzCvI v0) v0.toInt64 = 0 from gz_cmp_self] | rw [gz_cmp_self]
    refine gz_if_eq (pc := 543) (tgt := 548) dL_law__543 (by decide) (fun _ => ?_) (fun c => absurd rfl c)
    refine gz_goto (pc := 548) (tgt := 2739) dL_law__548 (by decide) ?_
    exact K _ _ _ _ _ hR (by omega) (by omega)
  | error E =>
    rintro _ _ ⟨kk, hk, rfl, rfl⟩
    obtain ⟨v, I2, J2, hm, ⟨k2, hk2, hth⟩, hj, hR⟩ := hM J
    have ekk : k2 = kk := gzHs_inj (by decide) hk2 hk
    subst ekk
    have hkl : k2 < 2 ^ 20 := gzHs_lt hk (by decide)
    show gzX g 512 (d + 130) mLaw 500 [some (.inr (.inr (0, 61))), some (.inr (.inr (0, 30))), some (.inr (.inr (0, 47))), some (.inr (.inr (0, 59))), some (.inl (Int32.ofNat i)), none, none] [.inl (Int32.ofNat (k2 + 1))] (gzN, gzR0, I1, J) (z + 1) Q
    refine gz_istore (pc := 500) dL_law__500 (by decide) rfl (loc2 := [some (.inr (.inr (0, 61))), some (.inr (.inr (0, 30))), some (.inr (.inr (0, 47))), some (.inr (.inr (0, 59))), some (.inl (Int32.ofNat i)), some (.inl (Int32.ofNat (k2 + 1))), none]) rfl ?_
    refine gz_aload_n (pc := 502) dL_law__502 rfl ?_
    refine gz_aload_n (pc := 503) dL_law__503 rfl ?_
    refine gz_iload (pc := 504) dL_law__504 rfl ?_
    refine gz_iconst (pc := 506) dL_law__506 (v := 1) (by decide) ?_
    refine gz_iadd (pc := 507) dL_law__507 ?_
    refine gz_sld (j := i + 1) (pc := 508) dL_law__508 (Int32.ofNat_add i 1).symm (by omega) ?_
    refine gz_aload_n (pc := 509) dL_law__509 rfl ?_
    refine gz_iload (pc := 510) dL_law__510 rfl ?_
    refine gz_iconst (pc := 512) dL_law__512 (v := 2) (by decide) ?_
    refine gz_iadd (pc := 513) dL_law__513 ?_
    refine gz_sld (j := i + 2) (pc := 514) dL_law__514 (Int32.ofNat_add i 2).symm (by omega) ?_
    refine gz_V (zy := mX12_family) (zc := 0) (d := d + 129) (pc := 515) (t := 0) (o := 47) (ci := 12) (r := (RX12, TX12, 21)) [.inl (gzXs g (i + 1)), .inl (gzXs g (i + 2))] rfl dL_law__515 lkL_147 MvX12_family rfl (gzOk_of (by decide)) rfl rfl rfl (Or.inr rfl) (fun h => h) (by exact Nat.le_of_ble_eq_true rfl) ?_
    refine gz_useI (d := d + 129) (c_X12_family (d := d + 119) hm) ?_
    refine gz_istore (pc := 518) dL_law__518 (by decide) rfl (loc2 := [some (.inr (.inr (0, 61))), some (.inr (.inr (0, 30))), some (.inr (.inr (0, 47))), some (.inr (.inr (0, 59))), some (.inl (Int32.ofNat i)), some (.inl (Int32.ofNat (k2 + 1))), some (.inl v)]) rfl ?_
    refine gz_aload_n (pc := 520) dL_law__520 rfl ?_
    refine gz_V (zy := mX12_thrown) (zc := 0) (d := d + 129) (pc := 521) (t := 0) (o := 47) (ci := 12) (r := (RX12, TX12, 21)) [] rfl dL_law__521 lkL_134 MvX12_thrown rfl (gzOk_of (by decide)) rfl rfl rfl (Or.inr rfl) (fun h => h) (by exact Nat.le_of_ble_eq_true rfl) ?_
    refine gz_useI (d := d + 129) (c_X12_thrown (d := d + 129) rfl) ?_
    dsimp only
    rw [hth]
    refine gz_iload (pc := 524) dL_law__524 rfl ?_
    refine gz_ic_eq (pc := 526) (tgt := 531) dL_law__526 (by decide) (fun _ => ?_) (fun c => absurd rfl c)
    refine gz_iload (pc := 531) dL_law__531 rfl ?_
    refine gz_if_ne (pc := 533) (tgt := 548) dL_law__533 (by decide) (fun _ => ?_) (fun c => absurd c (gzHs_ne hkl))
    refine gz_goto (pc := 548) (tgt := 2739) dL_law__548 (by decide) ?_
    exact K _ _ _ _ _ hR (by omega) (by omega)
set_option maxRecDepth 20000 in
theorem b_6 {g : gzG} {d i z : Nat} {I : gzIT} {J : gzJT} {Q : gzO → gzS → Prop} (hi : i + 6 ≤ g.2.2.2.2.2 1 61) (hz : z + 1 ≤ 512) (h : gzR I I) (K : ∀ (l5 l6 : Option gzV) (I2 : gzIT) (J2 : gzJT) (z2 : Nat), gzR I2 I2 → z ≤ z2 → z2 ≤ z + 1 → gzX g 512 (d + 130) mLaw 2739 [some (.inr (.inr (0, 61))), some (.inr (.inr (0, 30))), some (.inr (.inr (0, 47))), some (.inr (.inr (0, 59))), some (.inl (Int32.ofNat i)), l5, l6] [] (gzN, gzR0, I2, J2) z2 Q) :
    gzX g 512 (d + 130) mLaw 551 [some (.inr (.inr (0, 61))), some (.inr (.inr (0, 30))), some (.inr (.inr (0, 47))), some (.inr (.inr (0, 59))), some (.inl (Int32.ofNat i)), none, none] [] (gzN, gzR0, I, J) z Q := by
  obtain ⟨e, I1, hf, hE, hM⟩ := L_grudge (J := J) (gzXs g (i + 1)) (gzXs g (i + 2)) h
  refine gz_aload_n (pc := 551) dL_law__551 rfl ?_
  refine gz_aload_n (pc := 552) dL_law__552 rfl ?_
  refine gz_iload (pc := 553) dL_law__553 rfl ?_
  refine gz_iconst (pc := 555) dL_law__555 (v := 1) (by decide) ?_
  refine gz_iadd (pc := 556) dL_law__556 ?_
  refine gz_sld (j := i + 1) (pc := 557) dL_law__557 (Int32.ofNat_add i 1).symm (by omega) ?_
  refine gz_aload_n (pc := 558) dL_law__558 rfl ?_
  refine gz_iload (pc := 559) dL_law__559 rfl ?_
  refine gz_iconst (pc := 561) dL_law__561 (v := 2) (by decide) ?_
  refine gz_iadd (pc := 562) dL_law__562 ?_
  refine gz_sld (j := i + 2) (pc := 563) dL_law__563 (Int32.ofNat_add i 2).symm (by omega) ?_
  refine gz_aload_n (pc := 564) dL_law__564 rfl ?_
  refine gz_SH (zy := mL_grudge) (hh := hL_grudge) (zc := 1) (d := d + 129) (pc := 565) [.inr (.inr (0, 30)), .inl (gzXs g (i + 1)), .inl (gzXs g (i + 2)), .inr (.inr (0, 59))] rfl dL_law__565 lhL_grudge MhL_grudge rfl (Or.inr rfl) (fun _ => by omega) (by exact Nat.le_of_ble_eq_true rfl) ?_
  refine gzCh.mono (h_L_grudge (d := d + 68) hf hE) ?_
  cases e with
  | ok v0 =>
    rintro _ _ ⟨rfl, rfl⟩
    obtain ⟨v, I2, J2, hm, hs, hj, hR⟩ := hM (gz_uj J 0 59 0 (gzCvI v0))
    obtain ⟨rfl, hth⟩ := hs
    show gzX g 512 (d + 130) mLaw 568 [some (.inr (.inr (0, 61))), some (.inr (.inr (0, 30))), some (.inr (.inr (0, 47))), some (.inr (.inr (0, 59))), some (.inl (Int32.ofNat i)), none, none] [.inl 0] (gzN, gzR0, I1, gz_uj J 0 59 0 (gzCvI v0)) (z + 1) Q
    refine gz_istore (pc := 568) dL_law__568 (by decide) rfl (loc2 := [some (.inr (.inr (0, 61))), some (.inr (.inr (0, 30))), some (.inr (.inr (0, 47))), some (.inr (.inr (0, 59))), some (.inl (Int32.ofNat i)), some (.inl 0), none]) rfl ?_
    refine gz_aload_n (pc := 570) dL_law__570 rfl ?_
    refine gz_aload_n (pc := 571) dL_law__571 rfl ?_
    refine gz_iload (pc := 572) dL_law__572 rfl ?_
    refine gz_iconst (pc := 574) dL_law__574 (v := 1) (by decide) ?_
    refine gz_iadd (pc := 575) dL_law__575 ?_
    refine gz_sld (j := i + 1) (pc := 576) dL_law__576 (Int32.ofNat_add i 1).symm (by omega) ?_
    refine gz_aload_n (pc := 577) dL_law__577 rfl ?_
    refine gz_iload (pc := 578) dL_law__578 rfl ?_
    refine gz_iconst (pc := 580) dL_law__580 (v := 2) (by decide) ?_
    refine gz_iadd (pc := 581) dL_law__581 ?_
    refine gz_sld (j := i + 2) (pc := 582) dL_law__582 (Int32.ofNat_add i 2).symm (by omega) ?_
    refine gz_V (zy := mX12_grudge) (zc := 0) (d := d + 129) (pc := 583) (t := 0) (o := 47) (ci := 12) (r := (RX12, TX12, 21)) [.inl (gzXs g (i + 1)), .inl (gzXs g (i + 2))] rfl dL_law__583 lkL_150 MvX12_grudge rfl (gzOk_of (by decide)) rfl rfl rfl (Or.inr rfl) (fun h => h) (by exact Nat.le_of_ble_eq_true rfl) ?_
    refine gz_useI (d := d + 129) (c_X12_grudge (d := d + 122) hm) ?_
    refine gz_istore (pc := 586) dL_law__586 (by decide) rfl (loc2 := [some (.inr (.inr (0, 61))), some (.inr (.inr (0, 30))), some (.inr (.inr (0, 47))), some (.inr (.inr (0, 59))), some (.inl (Int32.ofNat i)), some (.inl 0), some (.inl v0)]) rfl ?_
    refine gz_aload_n (pc := 588) dL_law__588 rfl ?_
    refine gz_V (zy := mX12_thrown) (zc := 0) (d := d + 129) (pc := 589) (t := 0) (o := 47) (ci := 12) (r := (RX12, TX12, 21)) [] rfl dL_law__589 lkL_134 MvX12_thrown rfl (gzOk_of (by decide)) rfl rfl rfl (Or.inr rfl) (fun h => h) (by exact Nat.le_of_ble_eq_true rfl) ?_
    refine gz_useI (d := d + 129) (c_X12_thrown (d := d + 129) rfl) ?_
    dsimp only
    rw [hth]
    refine gz_iload (pc := 592) dL_law__592 rfl ?_
    refine gz_ic_eq (pc := 594) (tgt := 599) dL_law__594 (by decide) (fun _ => ?_) (fun c => absurd rfl c)
    refine gz_iload (pc := 599) dL_law__599 rfl ?_
    refine gz_if_ne (pc := 601) (tgt := 616) dL_law__601 (by decide) (fun c => absurd rfl c) (fun _ => ?_)
    refine gz_aload_n (pc := 604) dL_law__604 rfl ?_
    refine gz_iconst (pc := 605) dL_law__605 (v := 0) (by decide) ?_
    refine gz_lald (N := 1) (pc := 606) dL_law__606 (gzOk_of (by decide)) rfl (gz_vpd (by decide)) ?_
    rw [show J2 0 59 (0 : Int32).toNatClampNeg = gzCvI v0 from hj.trans gz_uj_s0]
    refine gz_iload (pc := 607) dL_law__607 rfl ?_
    refine gz_i2l (pc := 609) dL_law__609 ?_
    refine gz_lcmp (pc := 610) dL_law__610 ?_
    first | rw [show lg_cmp (gzCvI v0) v0.toInt64 = 0 from gz_cmp_self] | rw [gz_cmp_self]
    refine gz_if_eq (pc := 611) (tgt := 616) dL_law__611 (by decide) (fun _ => ?_) (fun c => absurd rfl c)
    refine gz_goto (pc := 616) (tgt := 2739) dL_law__616 (by decide) ?_
    exact K _ _ _ _ _ hR (by omega) (by omega)
  | error E =>
    rintro _ _ ⟨kk, hk, rfl, rfl⟩
    obtain ⟨v, I2, J2, hm, ⟨k2, hk2, hth⟩, hj, hR⟩ := hM J
    have ekk : k2 = kk := gzHs_inj (by decide) hk2 hk
    subst ekk
    have hkl : k2 < 2 ^ 20 := gzHs_lt hk (by decide)
    show gzX g 512 (d + 130) mLaw 568 [some (.inr (.inr (0, 61))), some (.inr (.inr (0, 30))), some (.inr (.inr (0, 47))), some (.inr (.inr (0, 59))), some (.inl (Int32.ofNat i)), none, none] [.inl (Int32.ofNat (k2 + 1))] (gzN, gzR0, I1, J) (z + 1) Q
    refine gz_istore (pc := 568) dL_law__568 (by decide) rfl (loc2 := [some (.inr (.inr (0, 61))), some (.inr (.inr (0, 30))), some (.inr (.inr (0, 47))), some (.inr (.inr (0, 59))), some (.inl (Int32.ofNat i)), some (.inl (Int32.ofNat (k2 + 1))), none]) rfl ?_
    refine gz_aload_n (pc := 570) dL_law__570 rfl ?_
    refine gz_aload_n (pc := 571) dL_law__571 rfl ?_
    refine gz_iload (pc := 572) dL_law__572 rfl ?_
    refine gz_iconst (pc := 574) dL_law__574 (v := 1) (by decide) ?_
    refine gz_iadd (pc := 575) dL_law__575 ?_
    refine gz_sld (j := i + 1) (pc := 576) dL_law__576 (Int32.ofNat_add i 1).symm (by omega) ?_
    refine gz_aload_n (pc := 577) dL_law__577 rfl ?_
    refine gz_iload (pc := 578) dL_law__578 rfl ?_
    refine gz_iconst (pc := 580) dL_law__580 (v := 2) (by decide) ?_
    refine gz_iadd (pc := 581) dL_law__581 ?_
    refine gz_sld (j := i + 2) (pc := 582) dL_law__582 (Int32.ofNat_add i 2).symm (by omega) ?_
    refine gz_V (zy := mX12_grudge) (zc := 0) (d := d + 129) (pc := 583) (t := 0) (o := 47) (ci := 12) (r := (RX12, TX12, 21)) [.inl (gzXs g (i + 1)), .inl (gzXs g (i + 2))] rfl dL_law__583 lkL_150 MvX12_grudge rfl (gzOk_of (by decide)) rfl rfl rfl (Or.inr rfl) (fun h => h) (by exact Nat.le_of_ble_eq_true rfl) ?_
    refine gz_useI (d := d + 129) (c_X12_grudge (d := d + 122) hm) ?_
    refine gz_istore (pc := 586) dL_law__586 (by decide) rfl (loc2 := [some (.inr (.inr (0, 61))), some (.inr (.inr (0, 30))), some (.inr (.inr (0, 47))), some (.inr (.inr (0, 59))), some (.inl (Int32.ofNat i)), some (.inl (Int32.ofNat (k2 + 1))), some (.inl v)]) rfl ?_
    refine gz_aload_n (pc := 588) dL_law__588 rfl ?_
    refine gz_V (zy := mX12_thrown) (zc := 0) (d := d + 129) (pc := 589) (t := 0) (o := 47) (ci := 12) (r := (RX12, TX12, 21)) [] rfl dL_law__589 lkL_134 MvX12_thrown rfl (gzOk_of (by decide)) rfl rfl rfl (Or.inr rfl) (fun h => h) (by exact Nat.le_of_ble_eq_true rfl) ?_
    refine gz_useI (d := d + 129) (c_X12_thrown (d := d + 129) rfl) ?_
    dsimp only
    rw [hth]
    refine gz_iload (pc := 592) dL_law__592 rfl ?_
    refine gz_ic_eq (pc := 594) (tgt := 599) dL_law__594 (by decide) (fun _ => ?_) (fun c => absurd rfl c)
    refine gz_iload (pc := 599) dL_law__599 rfl ?_
    refine gz_if_ne (pc := 601) (tgt := 616) dL_law__601 (by decide) (fun _ => ?_) (fun c => absurd c (gzHs_ne hkl))
    refine gz_goto (pc := 616) (tgt := 2739) dL_law__616 (by decide) ?_
    exact K _ _ _ _ _ hR (by omega) (by omega)
set_option maxRecDepth 20000 in
theorem b_7 {g : gzG} {d i z : Nat} {I : gzIT} {J : gzJT} {Q : gzO → gzS → Prop} (hi : i + 6 ≤ g.2.2.2.2.2 1 61) (hz : z + 1 ≤ 512) (h : gzR I I) (K : ∀ (l5 l6 : Option gzV) (I2 : gzIT) (J2 : gzJT) (z2 : Nat), gzR I2 I2 → z ≤ z2 → z2 ≤ z + 1 → gzX g 512 (d + 130) mLaw 2739 [some (.inr (.inr (0, 61))), some (.inr (.inr (0, 30))), some (.inr (.inr (0, 47))), some (.inr (.inr (0, 59))), some (.inl (Int32.ofNat i)), l5, l6] [] (gzN, gzR0, I2, J2) z2 Q) :
    gzX g 512 (d + 130) mLaw 619 [some (.inr (.inr (0, 61))), some (.inr (.inr (0, 30))), some (.inr (.inr (0, 47))), some (.inr (.inr (0, 59))), some (.inl (Int32.ofNat i)), none, none] [] (gzN, gzR0, I, J) z Q := by
  obtain ⟨e, I1, hf, hE, hM⟩ := L_slight (J := J) (gzXs g (i + 1)) (gzXs g (i + 2)) h
  refine gz_aload_n (pc := 619) dL_law__619 rfl ?_
  refine gz_aload_n (pc := 620) dL_law__620 rfl ?_
  refine gz_iload (pc := 621) dL_law__621 rfl ?_
  refine gz_iconst (pc := 623) dL_law__623 (v := 1) (by decide) ?_
  refine gz_iadd (pc := 624) dL_law__624 ?_
  refine gz_sld (j := i + 1) (pc := 625) dL_law__625 (Int32.ofNat_add i 1).symm (by omega) ?_
  refine gz_aload_n (pc := 626) dL_law__626 rfl ?_
  refine gz_iload (pc := 627) dL_law__627 rfl ?_
  refine gz_iconst (pc := 629) dL_law__629 (v := 2) (by decide) ?_
  refine gz_iadd (pc := 630) dL_law__630 ?_
  refine gz_sld (j := i + 2) (pc := 631) dL_law__631 (Int32.ofNat_add i 2).symm (by omega) ?_
  refine gz_aload_n (pc := 632) dL_law__632 rfl ?_
  refine gz_SH (zy := mL_slight) (hh := hL_slight) (zc := 1) (d := d + 129) (pc := 633) [.inr (.inr (0, 30)), .inl (gzXs g (i + 1)), .inl (gzXs g (i + 2)), .inr (.inr (0, 59))] rfl dL_law__633 lhL_slight MhL_slight rfl (Or.inr rfl) (fun _ => by omega) (by exact Nat.le_of_ble_eq_true rfl) ?_
  refine gzCh.mono (h_L_slight (d := d + 68) hf hE) ?_
  cases e with
  | ok v0 =>
    rintro _ _ ⟨rfl, rfl⟩
    obtain ⟨v, I2, J2, hm, hs, hj, hR⟩ := hM (gz_uj J 0 59 0 (gzCvI v0))
    obtain ⟨rfl, hth⟩ := hs
    show gzX g 512 (d + 130) mLaw 636 [some (.inr (.inr (0, 61))), some (.inr (.inr (0, 30))), some (.inr (.inr (0, 47))), some (.inr (.inr (0, 59))), some (.inl (Int32.ofNat i)), none, none] [.inl 0] (gzN, gzR0, I1, gz_uj J 0 59 0 (gzCvI v0)) (z + 1) Q
    refine gz_istore (pc := 636) dL_law__636 (by decide) rfl (loc2 := [some (.inr (.inr (0, 61))), some (.inr (.inr (0, 30))), some (.inr (.inr (0, 47))), some (.inr (.inr (0, 59))), some (.inl (Int32.ofNat i)), some (.inl 0), none]) rfl ?_
    refine gz_aload_n (pc := 638) dL_law__638 rfl ?_
    refine gz_aload_n (pc := 639) dL_law__639 rfl ?_
    refine gz_iload (pc := 640) dL_law__640 rfl ?_
    refine gz_iconst (pc := 642) dL_law__642 (v := 1) (by decide) ?_
    refine gz_iadd (pc := 643) dL_law__643 ?_
    refine gz_sld (j := i + 1) (pc := 644) dL_law__644 (Int32.ofNat_add i 1).symm (by omega) ?_
    refine gz_aload_n (pc := 645) dL_law__645 rfl ?_
    refine gz_iload (pc := 646) dL_law__646 rfl ?_
    refine gz_iconst (pc := 648) dL_law__648 (v := 2) (by decide) ?_
    refine gz_iadd (pc := 649) dL_law__649 ?_
    refine gz_sld (j := i + 2) (pc := 650) dL_law__650 (Int32.ofNat_add i 2).symm (by omega) ?_
    refine gz_V (zy := mX12_slight) (zc := 0) (d := d + 129) (pc := 651) (t := 0) (o := 47) (ci := 12) (r := (RX12, TX12, 21)) [.inl (gzXs g (i + 1)), .inl (gzXs g (i + 2))] rfl dL_law__651 lkL_153 MvX12_slight rfl (gzOk_of (by decide)) rfl rfl rfl (Or.inr rfl) (fun h => h) (by exact Nat.le_of_ble_eq_true rfl) ?_
    refine gz_useI (d := d + 129) (c_X12_slight (d := d + 125) hm) ?_
    refine gz_istore (pc := 654) dL_law__654 (by decide) rfl (loc2 := [some (.inr (.inr (0, 61))), some (.inr (.inr (0, 30))), some (.inr (.inr (0, 47))), some (.inr (.inr (0, 59))), some (.inl (Int32.ofNat i)), some (.inl 0), some (.inl v0)]) rfl ?_
    refine gz_aload_n (pc := 656) dL_law__656 rfl ?_
    refine gz_V (zy := mX12_thrown) (zc := 0) (d := d + 129) (pc := 657) (t := 0) (o := 47) (ci := 12) (r := (RX12, TX12, 21)) [] rfl dL_law__657 lkL_134 MvX12_thrown rfl (gzOk_of (by decide)) rfl rfl rfl (Or.inr rfl) (fun h => h) (by exact Nat.le_of_ble_eq_true rfl) ?_
    refine gz_useI (d := d + 129) (c_X12_thrown (d := d + 129) rfl) ?_
    dsimp only
    rw [hth]
    refine gz_iload (pc := 660) dL_law__660 rfl ?_
    refine gz_ic_eq (pc := 662) (tgt := 667) dL_law__662 (by decide) (fun _ => ?_) (fun c => absurd rfl c)
    refine gz_iload (pc := 667) dL_law__667 rfl ?_
    refine gz_if_ne (pc := 669) (tgt := 684) dL_law__669 (by decide) (fun c => absurd rfl c) (fun _ => ?_)
    refine gz_aload_n (pc := 672) dL_law__672 rfl ?_
    refine gz_iconst (pc := 673) dL_law__673 (v := 0) (by decide) ?_
    refine gz_lald (N := 1) (pc := 674) dL_law__674 (gzOk_of (by decide)) rfl (gz_vpd (by decide)) ?_
    rw [show J2 0 59 (0 : Int32).toNatClampNeg = gzCvI v0 from hj.trans gz_uj_s0]
    refine gz_iload (pc := 675) dL_law__675 rfl ?_
    refine gz_i2l (pc := 677) dL_law__677 ?_
    refine gz_lcmp (pc := 678) dL_law__678 ?_
    first | rw [show lg_cmp (gzCvI v0) v0.toInt64 = 0 from gz_cmp_self] | rw [gz_cmp_self]
    refine gz_if_eq (pc := 679) (tgt := 684) dL_law__679 (by decide) (fun _ => ?_) (fun c => absurd rfl c)
    refine gz_goto (pc := 684) (tgt := 2739) dL_law__684 (by decide) ?_
    exact K _ _ _ _ _ hR (by omega) (by omega)
  | error E =>
    rintro _ _ ⟨kk, hk, rfl, rfl⟩
    obtain ⟨v, I2, J2, hm, ⟨k2, hk2, hth⟩, hj, hR⟩ := hM J
    have ekk : k2 = kk := gzHs_inj (by decide) hk2 hk
    subst ekk
    have hkl : k2 < 2 ^ 20 := gzHs_lt hk (by decide)
    show gzX g 512 (d + 130) mLaw 636 [some (.inr (.inr (0, 61))), some (.inr (.inr (0, 30))), some (.inr (.inr (0, 47))), some (.inr (.inr (0, 59))), some (.inl (Int32.ofNat i)), none, none] [.inl (Int32.ofNat (k2 + 1))] (gzN, gzR0, I1, J) (z + 1) Q
    refine gz_istore (pc := 636) dL_law__636 (by decide) rfl (loc2 := [some (.inr (.inr (0, 61))), some (.inr (.inr (0, 30))), some (.inr (.inr (0, 47))), some (.inr (.inr (0, 59))), some (.inl (Int32.ofNat i)), some (.inl (Int32.ofNat (k2 + 1))), none]) rfl ?_
    refine gz_aload_n (pc := 638) dL_law__638 rfl ?_
    refine gz_aload_n (pc := 639) dL_law__639 rfl ?_
    refine gz_iload (pc := 640) dL_law__640 rfl ?_
    refine gz_iconst (pc := 642) dL_law__642 (v := 1) (by decide) ?_
    refine gz_iadd (pc := 643) dL_law__643 ?_
    refine gz_sld (j := i + 1) (pc := 644) dL_law__644 (Int32.ofNat_add i 1).symm (by omega) ?_
    refine gz_aload_n (pc := 645) dL_law__645 rfl ?_
    refine gz_iload (pc := 646) dL_law__646 rfl ?_
    refine gz_iconst (pc := 648) dL_law__648 (v := 2) (by decide) ?_
    refine gz_iadd (pc := 649) dL_law__649 ?_
    refine gz_sld (j := i + 2) (pc := 650) dL_law__650 (Int32.ofNat_add i 2).symm (by omega) ?_
    refine gz_V (zy := mX12_slight) (zc := 0) (d := d + 129) (pc := 651) (t := 0) (o := 47) (ci := 12) (r := (RX12, TX12, 21)) [.inl (gzXs g (i + 1)), .inl (gzXs g (i + 2))] rfl dL_law__651 lkL_153 MvX12_slight rfl (gzOk_of (by decide)) rfl rfl rfl (Or.inr rfl) (fun h => h) (by exact Nat.le_of_ble_eq_true rfl) ?_
    refine gz_useI (d := d + 129) (c_X12_slight (d := d + 125) hm) ?_
    refine gz_istore (pc := 654) dL_law__654 (by decide) rfl (loc2 := [some (.inr (.inr (0, 61))), some (.inr (.inr (0, 30))), some (.inr (.inr (0, 47))), some (.inr (.inr (0, 59))), some (.inl (Int32.ofNat i)), some (.inl (Int32.ofNat (k2 + 1))), some (.inl v)]) rfl ?_
    refine gz_aload_n (pc := 656) dL_law__656 rfl ?_
    refine gz_V (zy := mX12_thrown) (zc := 0) (d := d + 129) (pc := 657) (t := 0) (o := 47) (ci := 12) (r := (RX12, TX12, 21)) [] rfl dL_law__657 lkL_134 MvX12_thrown rfl (gzOk_of (by decide)) rfl rfl rfl (Or.inr rfl) (fun h => h) (by exact Nat.le_of_ble_eq_true rfl) ?_
    refine gz_useI (d := d + 129) (c_X12_thrown (d := d + 129) rfl) ?_
    dsimp only
    rw [hth]
    refine gz_iload (pc := 660) dL_law__660 rfl ?_
    refine gz_ic_eq (pc := 662) (tgt := 667) dL_law__662 (by decide) (fun _ => ?_) (fun c => absurd rfl c)
    refine gz_iload (pc := 667) dL_law__667 rfl ?_
    refine gz_if_ne (pc := 669) (tgt := 684) dL_law__669 (by decide) (fun _ => ?_) (fun c => absurd c (gzHs_ne hkl))
    refine gz_goto (pc := 684) (tgt := 2739) dL_law__684 (by decide) ?_
    exact K _ _ _ _ _ hR (by omega) (by omega)
set_option maxRecDepth 20000 in
theorem b_8 {g : gzG} {d i z : Nat} {I : gzIT} {J : gzJT} {Q : gzO → gzS → Prop} (hi : i + 6 ≤ g.2.2.2.2.2 1 61) (hz : z + 1 ≤ 512) (h : gzR I I) (K : ∀ (l5 l6 : Option gzV) (I2 : gzIT) (J2 : gzJT) (z2 : Nat), gzR I2 I2 → z ≤ z2 → z2 ≤ z + 1 → gzX g 512 (d + 130) mLaw 2739 [some (.inr (.inr (0, 61))), some (.inr (.inr (0, 30))), some (.inr (.inr (0, 47))), some (.inr (.inr (0, 59))), some (.inl (Int32.ofNat i)), l5, l6] [] (gzN, gzR0, I2, J2) z2 Q) :
    gzX g 512 (d + 130) mLaw 687 [some (.inr (.inr (0, 61))), some (.inr (.inr (0, 30))), some (.inr (.inr (0, 47))), some (.inr (.inr (0, 59))), some (.inl (Int32.ofNat i)), none, none] [] (gzN, gzR0, I, J) z Q := by
  obtain ⟨e, I1, hf, hE, hM⟩ := L_heat (J := J) (gzXs g (i + 1)) h
  refine gz_aload_n (pc := 687) dL_law__687 rfl ?_
  refine gz_aload_n (pc := 688) dL_law__688 rfl ?_
  refine gz_iload (pc := 689) dL_law__689 rfl ?_
  refine gz_iconst (pc := 691) dL_law__691 (v := 1) (by decide) ?_
  refine gz_iadd (pc := 692) dL_law__692 ?_
  refine gz_sld (j := i + 1) (pc := 693) dL_law__693 (Int32.ofNat_add i 1).symm (by omega) ?_
  refine gz_aload_n (pc := 694) dL_law__694 rfl ?_
  refine gz_SH (zy := mL_heat) (hh := hL_heat) (zc := 1) (d := d + 129) (pc := 695) [.inr (.inr (0, 30)), .inl (gzXs g (i + 1)), .inr (.inr (0, 59))] rfl dL_law__695 lhL_heat MhL_heat rfl (Or.inr rfl) (fun _ => by omega) (by exact Nat.le_of_ble_eq_true rfl) ?_
  refine gzCh.mono (h_L_heat (d := d + 68) hf hE) ?_
  cases e with
  | ok v0 =>
    rintro _ _ ⟨rfl, rfl⟩
    obtain ⟨v, I2, J2, hm, hs, hj, hR⟩ := hM (gz_uj J 0 59 0 (gzCvI v0))
    obtain ⟨rfl, hth⟩ := hs
    show gzX g 512 (d + 130) mLaw 698 [some (.inr (.inr (0, 61))), some (.inr (.inr (0, 30))), some (.inr (.inr (0, 47))), some (.inr (.inr (0, 59))), some (.inl (Int32.ofNat i)), none, none] [.inl 0] (gzN, gzR0, I1, gz_uj J 0 59 0 (gzCvI v0)) (z + 1) Q
    refine gz_istore (pc := 698) dL_law__698 (by decide) rfl (loc2 := [some (.inr (.inr (0, 61))), some (.inr (.inr (0, 30))), some (.inr (.inr (0, 47))), some (.inr (.inr (0, 59))), some (.inl (Int32.ofNat i)), some (.inl 0), none]) rfl ?_
    refine gz_aload_n (pc := 700) dL_law__700 rfl ?_
    refine gz_aload_n (pc := 701) dL_law__701 rfl ?_
    refine gz_iload (pc := 702) dL_law__702 rfl ?_
    refine gz_iconst (pc := 704) dL_law__704 (v := 1) (by decide) ?_
    refine gz_iadd (pc := 705) dL_law__705 ?_
    refine gz_sld (j := i + 1) (pc := 706) dL_law__706 (Int32.ofNat_add i 1).symm (by omega) ?_
    refine gz_V (zy := mX12_heat) (zc := 0) (d := d + 129) (pc := 707) (t := 0) (o := 47) (ci := 12) (r := (RX12, TX12, 21)) [.inl (gzXs g (i + 1))] rfl dL_law__707 lkL_157 MvX12_heat rfl (gzOk_of (by decide)) rfl rfl rfl (Or.inr rfl) (fun h => h) (by exact Nat.le_of_ble_eq_true rfl) ?_
    refine gz_useI (d := d + 129) (c_X12_heat (d := d + 128) hm) ?_
    refine gz_istore (pc := 710) dL_law__710 (by decide) rfl (loc2 := [some (.inr (.inr (0, 61))), some (.inr (.inr (0, 30))), some (.inr (.inr (0, 47))), some (.inr (.inr (0, 59))), some (.inl (Int32.ofNat i)), some (.inl 0), some (.inl v0)]) rfl ?_
    refine gz_aload_n (pc := 712) dL_law__712 rfl ?_
    refine gz_V (zy := mX12_thrown) (zc := 0) (d := d + 129) (pc := 713) (t := 0) (o := 47) (ci := 12) (r := (RX12, TX12, 21)) [] rfl dL_law__713 lkL_134 MvX12_thrown rfl (gzOk_of (by decide)) rfl rfl rfl (Or.inr rfl) (fun h => h) (by exact Nat.le_of_ble_eq_true rfl) ?_
    refine gz_useI (d := d + 129) (c_X12_thrown (d := d + 129) rfl) ?_
    dsimp only
    rw [hth]
    refine gz_iload (pc := 716) dL_law__716 rfl ?_
    refine gz_ic_eq (pc := 718) (tgt := 723) dL_law__718 (by decide) (fun _ => ?_) (fun c => absurd rfl c)
    refine gz_iload (pc := 723) dL_law__723 rfl ?_
    refine gz_if_ne (pc := 725) (tgt := 740) dL_law__725 (by decide) (fun c => absurd rfl c) (fun _ => ?_)
    refine gz_aload_n (pc := 728) dL_law__728 rfl ?_
    refine gz_iconst (pc := 729) dL_law__729 (v := 0) (by decide) ?_
    refine gz_lald (N := 1) (pc := 730) dL_law__730 (gzOk_of (by decide)) rfl (gz_vpd (by decide)) ?_
    rw [show J2 0 59 (0 : Int32).toNatClampNeg = gzCvI v0 from hj.trans gz_uj_s0]
    refine gz_iload (pc := 731) dL_law__731 rfl ?_
    refine gz_i2l (pc := 733) dL_law__733 ?_
    refine gz_lcmp (pc := 734) dL_law__734 ?_
    first | rw [show lg_cmp (gzCvI v0) v0.toInt64 = 0 from gz_cmp_self] | rw [gz_cmp_self]
    refine gz_if_eq (pc := 735) (tgt := 740) dL_law__735 (by decide) (fun _ => ?_) (fun c => absurd rfl c)
    refine gz_goto (pc := 740) (tgt := 2739) dL_law__740 (by decide) ?_
    exact K _ _ _ _ _ hR (by omega) (by omega)
  | error E =>
    rintro _ _ ⟨kk, hk, rfl, rfl⟩
    obtain ⟨v, I2, J2, hm, ⟨k2, hk2, hth⟩, hj, hR⟩ := hM J
    have ekk : k2 = kk := gzHs_inj (by decide) hk2 hk
    subst ekk
    have hkl : k2 < 2 ^ 20 := gzHs_lt hk (by decide)
    show gzX g 512 (d + 130) mLaw 698 [some (.inr (.inr (0, 61))), some (.inr (.inr (0, 30))), some (.inr (.inr (0, 47))), some (.inr (.inr (0, 59))), some (.inl (Int32.ofNat i)), none, none] [.inl (Int32.ofNat (k2 + 1))] (gzN, gzR0, I1, J) (z + 1) Q
    refine gz_istore (pc := 698) dL_law__698 (by decide) rfl (loc2 := [some (.inr (.inr (0, 61))), some (.inr (.inr (0, 30))), some (.inr (.inr (0, 47))), some (.inr (.inr (0, 59))), some (.inl (Int32.ofNat i)), some (.inl (Int32.ofNat (k2 + 1))), none]) rfl ?_
    refine gz_aload_n (pc := 700) dL_law__700 rfl ?_
    refine gz_aload_n (pc := 701) dL_law__701 rfl ?_
    refine gz_iload (pc := 702) dL_law__702 rfl ?_
    refine gz_iconst (pc := 704) dL_law__704 (v := 1) (by decide) ?_
    refine gz_iadd (pc := 705) dL_law__705 ?_
    refine gz_sld (j := i + 1) (pc := 706) dL_law__706 (Int32.ofNat_add i 1).symm (by omega) ?_
    refine gz_V (zy := mX12_heat) (zc := 0) (d := d + 129) (pc := 707) (t := 0) (o := 47) (ci := 12) (r := (RX12, TX12, 21)) [.inl (gzXs g (i + 1))] rfl dL_law__707 lkL_157 MvX12_heat rfl (gzOk_of (by decide)) rfl rfl rfl (Or.inr rfl) (fun h => h) (by exact Nat.le_of_ble_eq_true rfl) ?_
    refine gz_useI (d := d + 129) (c_X12_heat (d := d + 128) hm) ?_
    refine gz_istore (pc := 710) dL_law__710 (by decide) rfl (loc2 := [some (.inr (.inr (0, 61))), some (.inr (.inr (0, 30))), some (.inr (.inr (0, 47))), some (.inr (.inr (0, 59))), some (.inl (Int32.ofNat i)), some (.inl (Int32.ofNat (k2 + 1))), some (.inl v)]) rfl ?_
    refine gz_aload_n (pc := 712) dL_law__712 rfl ?_
    refine gz_V (zy := mX12_thrown) (zc := 0) (d := d + 129) (pc := 713) (t := 0) (o := 47) (ci := 12) (r := (RX12, TX12, 21)) [] rfl dL_law__713 lkL_134 MvX12_thrown rfl (gzOk_of (by decide)) rfl rfl rfl (Or.inr rfl) (fun h => h) (by exact Nat.le_of_ble_eq_true rfl) ?_
    refine gz_useI (d := d + 129) (c_X12_thrown (d := d + 129) rfl) ?_
    dsimp only
    rw [hth]
    refine gz_iload (pc := 716) dL_law__716 rfl ?_
    refine gz_ic_eq (pc := 718) (tgt := 723) dL_law__718 (by decide) (fun _ => ?_) (fun c => absurd rfl c)
    refine gz_iload (pc := 723) dL_law__723 rfl ?_
    refine gz_if_ne (pc := 725) (tgt := 740) dL_law__725 (by decide) (fun _ => ?_) (fun c => absurd c (gzHs_ne hkl))
    refine gz_goto (pc := 740) (tgt := 2739) dL_law__740 (by decide) ?_
    exact K _ _ _ _ _ hR (by omega) (by omega)
set_option maxRecDepth 20000 in
theorem b_9 {g : gzG} {d i z : Nat} {I : gzIT} {J : gzJT} {Q : gzO → gzS → Prop} (hi : i + 6 ≤ g.2.2.2.2.2 1 61) (hz : z + 1 ≤ 512) (h : gzR I I) (K : ∀ (l5 l6 : Option gzV) (I2 : gzIT) (J2 : gzJT) (z2 : Nat), gzR I2 I2 → z ≤ z2 → z2 ≤ z + 1 → gzX g 512 (d + 130) mLaw 2739 [some (.inr (.inr (0, 61))), some (.inr (.inr (0, 30))), some (.inr (.inr (0, 47))), some (.inr (.inr (0, 59))), some (.inl (Int32.ofNat i)), l5, l6] [] (gzN, gzR0, I2, J2) z2 Q) :
    gzX g 512 (d + 130) mLaw 743 [some (.inr (.inr (0, 61))), some (.inr (.inr (0, 30))), some (.inr (.inr (0, 47))), some (.inr (.inr (0, 59))), some (.inl (Int32.ofNat i)), none, none] [] (gzN, gzR0, I, J) z Q := by
  obtain ⟨e, I1, hf, hE, hM⟩ := L_seasons (J := J) (gzXs g (i + 1)) h
  refine gz_aload_n (pc := 743) dL_law__743 rfl ?_
  refine gz_aload_n (pc := 744) dL_law__744 rfl ?_
  refine gz_iload (pc := 745) dL_law__745 rfl ?_
  refine gz_iconst (pc := 747) dL_law__747 (v := 1) (by decide) ?_
  refine gz_iadd (pc := 748) dL_law__748 ?_
  refine gz_sld (j := i + 1) (pc := 749) dL_law__749 (Int32.ofNat_add i 1).symm (by omega) ?_
  refine gz_aload_n (pc := 750) dL_law__750 rfl ?_
  refine gz_SH (zy := mL_seasons) (hh := hL_seasons) (zc := 1) (d := d + 129) (pc := 751) [.inr (.inr (0, 30)), .inl (gzXs g (i + 1)), .inr (.inr (0, 59))] rfl dL_law__751 lhL_seasons MhL_seasons rfl (Or.inr rfl) (fun _ => by omega) (by exact Nat.le_of_ble_eq_true rfl) ?_
  refine gzCh.mono (h_L_seasons (d := d + 68) hf hE) ?_
  cases e with
  | ok v0 =>
    rintro _ _ ⟨rfl, rfl⟩
    obtain ⟨v, I2, J2, hm, hs, hj, hR⟩ := hM (gz_uj J 0 59 0 (gzCvI v0))
    obtain ⟨rfl, hth⟩ := hs
    show gzX g 512 (d + 130) mLaw 754 [some (.inr (.inr (0, 61))), some (.inr (.inr (0, 30))), some (.inr (.inr (0, 47))), some (.inr (.inr (0, 59))), some (.inl (Int32.ofNat i)), none, none] [.inl 0] (gzN, gzR0, I1, gz_uj J 0 59 0 (gzCvI v0)) (z + 1) Q
    refine gz_istore (pc := 754) dL_law__754 (by decide) rfl (loc2 := [some (.inr (.inr (0, 61))), some (.inr (.inr (0, 30))), some (.inr (.inr (0, 47))), some (.inr (.inr (0, 59))), some (.inl (Int32.ofNat i)), some (.inl 0), none]) rfl ?_
    refine gz_aload_n (pc := 756) dL_law__756 rfl ?_
    refine gz_aload_n (pc := 757) dL_law__757 rfl ?_
    refine gz_iload (pc := 758) dL_law__758 rfl ?_
    refine gz_iconst (pc := 760) dL_law__760 (v := 1) (by decide) ?_
    refine gz_iadd (pc := 761) dL_law__761 ?_
    refine gz_sld (j := i + 1) (pc := 762) dL_law__762 (Int32.ofNat_add i 1).symm (by omega) ?_
    refine gz_V (zy := mX12_seasons) (zc := 0) (d := d + 129) (pc := 763) (t := 0) (o := 47) (ci := 12) (r := (RX12, TX12, 21)) [.inl (gzXs g (i + 1))] rfl dL_law__763 lkL_160 MvX12_seasons rfl (gzOk_of (by decide)) rfl rfl rfl (Or.inr rfl) (fun h => h) (by exact Nat.le_of_ble_eq_true rfl) ?_
    refine gz_useI (d := d + 129) (c_X12_seasons (d := d + 119) hm) ?_
    refine gz_istore (pc := 766) dL_law__766 (by decide) rfl (loc2 := [some (.inr (.inr (0, 61))), some (.inr (.inr (0, 30))), some (.inr (.inr (0, 47))), some (.inr (.inr (0, 59))), some (.inl (Int32.ofNat i)), some (.inl 0), some (.inl v0)]) rfl ?_
    refine gz_aload_n (pc := 768) dL_law__768 rfl ?_
    refine gz_V (zy := mX12_thrown) (zc := 0) (d := d + 129) (pc := 769) (t := 0) (o := 47) (ci := 12) (r := (RX12, TX12, 21)) [] rfl dL_law__769 lkL_134 MvX12_thrown rfl (gzOk_of (by decide)) rfl rfl rfl (Or.inr rfl) (fun h => h) (by exact Nat.le_of_ble_eq_true rfl) ?_
    refine gz_useI (d := d + 129) (c_X12_thrown (d := d + 129) rfl) ?_
    dsimp only
    rw [hth]
    refine gz_iload (pc := 772) dL_law__772 rfl ?_
    refine gz_ic_eq (pc := 774) (tgt := 779) dL_law__774 (by decide) (fun _ => ?_) (fun c => absurd rfl c)
    refine gz_iload (pc := 779) dL_law__779 rfl ?_
    refine gz_if_ne (pc := 781) (tgt := 796) dL_law__781 (by decide) (fun c => absurd rfl c) (fun _ => ?_)
    refine gz_aload_n (pc := 784) dL_law__784 rfl ?_
    refine gz_iconst (pc := 785) dL_law__785 (v := 0) (by decide) ?_
    refine gz_lald (N := 1) (pc := 786) dL_law__786 (gzOk_of (by decide)) rfl (gz_vpd (by decide)) ?_
    rw [show J2 0 59 (0 : Int32).toNatClampNeg = gzCvI v0 from hj.trans gz_uj_s0]
    refine gz_iload (pc := 787) dL_law__787 rfl ?_
    refine gz_i2l (pc := 789) dL_law__789 ?_
    refine gz_lcmp (pc := 790) dL_law__790 ?_
    first | rw [show lg_cmp (gzCvI v0) v0.toInt64 = 0 from gz_cmp_self] | rw [gz_cmp_self]
    refine gz_if_eq (pc := 791) (tgt := 796) dL_law__791 (by decide) (fun _ => ?_) (fun c => absurd rfl c)
    refine gz_goto (pc := 796) (tgt := 2739) dL_law__796 (by decide) ?_
    exact K _ _ _ _ _ hR (by omega) (by omega)
  | error E =>
    rintro _ _ ⟨kk, hk, rfl, rfl⟩
    obtain ⟨v, I2, J2, hm, ⟨k2, hk2, hth⟩, hj, hR⟩ := hM J
    have ekk : k2 = kk := gzHs_inj (by decide) hk2 hk
    subst ekk
    have hkl : k2 < 2 ^ 20 := gzHs_lt hk (by decide)
    show gzX g 512 (d + 130) mLaw 754 [some (.inr (.inr (0, 61))), some (.inr (.inr (0, 30))), some (.inr (.inr (0, 47))), some (.inr (.inr (0, 59))), some (.inl (Int32.ofNat i)), none, none] [.inl (Int32.ofNat (k2 + 1))] (gzN, gzR0, I1, J) (z + 1) Q
    refine gz_istore (pc := 754) dL_law__754 (by decide) rfl (loc2 := [some (.inr (.inr (0, 61))), some (.inr (.inr (0, 30))), some (.inr (.inr (0, 47))), some (.inr (.inr (0, 59))), some (.inl (Int32.ofNat i)), some (.inl (Int32.ofNat (k2 + 1))), none]) rfl ?_
    refine gz_aload_n (pc := 756) dL_law__756 rfl ?_
    refine gz_aload_n (pc := 757) dL_law__757 rfl ?_
    refine gz_iload (pc := 758) dL_law__758 rfl ?_
    refine gz_iconst (pc := 760) dL_law__760 (v := 1) (by decide) ?_
    refine gz_iadd (pc := 761) dL_law__761 ?_
    refine gz_sld (j := i + 1) (pc := 762) dL_law__762 (Int32.ofNat_add i 1).symm (by omega) ?_
    refine gz_V (zy := mX12_seasons) (zc := 0) (d := d + 129) (pc := 763) (t := 0) (o := 47) (ci := 12) (r := (RX12, TX12, 21)) [.inl (gzXs g (i + 1))] rfl dL_law__763 lkL_160 MvX12_seasons rfl (gzOk_of (by decide)) rfl rfl rfl (Or.inr rfl) (fun h => h) (by exact Nat.le_of_ble_eq_true rfl) ?_
    refine gz_useI (d := d + 129) (c_X12_seasons (d := d + 119) hm) ?_
    refine gz_istore (pc := 766) dL_law__766 (by decide) rfl (loc2 := [some (.inr (.inr (0, 61))), some (.inr (.inr (0, 30))), some (.inr (.inr (0, 47))), some (.inr (.inr (0, 59))), some (.inl (Int32.ofNat i)), some (.inl (Int32.ofNat (k2 + 1))), some (.inl v)]) rfl ?_
    refine gz_aload_n (pc := 768) dL_law__768 rfl ?_
    refine gz_V (zy := mX12_thrown) (zc := 0) (d := d + 129) (pc := 769) (t := 0) (o := 47) (ci := 12) (r := (RX12, TX12, 21)) [] rfl dL_law__769 lkL_134 MvX12_thrown rfl (gzOk_of (by decide)) rfl rfl rfl (Or.inr rfl) (fun h => h) (by exact Nat.le_of_ble_eq_true rfl) ?_
    refine gz_useI (d := d + 129) (c_X12_thrown (d := d + 129) rfl) ?_
    dsimp only
    rw [hth]
    refine gz_iload (pc := 772) dL_law__772 rfl ?_
    refine gz_ic_eq (pc := 774) (tgt := 779) dL_law__774 (by decide) (fun _ => ?_) (fun c => absurd rfl c)
    refine gz_iload (pc := 779) dL_law__779 rfl ?_
    refine gz_if_ne (pc := 781) (tgt := 796) dL_law__781 (by decide) (fun _ => ?_) (fun c => absurd c (gzHs_ne hkl))
    refine gz_goto (pc := 796) (tgt := 2739) dL_law__796 (by decide) ?_
    exact K _ _ _ _ _ hR (by omega) (by omega)
set_option maxRecDepth 20000 in
theorem b_10 {g : gzG} {d i z : Nat} {I : gzIT} {J : gzJT} {Q : gzO → gzS → Prop} (hi : i + 6 ≤ g.2.2.2.2.2 1 61) (hz : z + 1 ≤ 512) (h : gzR I I) (K : ∀ (l5 l6 : Option gzV) (I2 : gzIT) (J2 : gzJT) (z2 : Nat), gzR I2 I2 → z ≤ z2 → z2 ≤ z + 1 → gzX g 512 (d + 130) mLaw 2739 [some (.inr (.inr (0, 61))), some (.inr (.inr (0, 30))), some (.inr (.inr (0, 47))), some (.inr (.inr (0, 59))), some (.inl (Int32.ofNat i)), l5, l6] [] (gzN, gzR0, I2, J2) z2 Q) :
    gzX g 512 (d + 130) mLaw 799 [some (.inr (.inr (0, 61))), some (.inr (.inr (0, 30))), some (.inr (.inr (0, 47))), some (.inr (.inr (0, 59))), some (.inl (Int32.ofNat i)), none, none] [] (gzN, gzR0, I, J) z Q := by
  obtain ⟨e, I1, hf, hE, hM⟩ := L_insult (J := J) (gzXs g (i + 1)) (gzXs g (i + 2)) (gzXs g (i + 3)) h
  refine gz_aload_n (pc := 799) dL_law__799 rfl ?_
  refine gz_aload_n (pc := 800) dL_law__800 rfl ?_
  refine gz_iload (pc := 801) dL_law__801 rfl ?_
  refine gz_iconst (pc := 803) dL_law__803 (v := 1) (by decide) ?_
  refine gz_iadd (pc := 804) dL_law__804 ?_
  refine gz_sld (j := i + 1) (pc := 805) dL_law__805 (Int32.ofNat_add i 1).symm (by omega) ?_
  refine gz_aload_n (pc := 806) dL_law__806 rfl ?_
  refine gz_iload (pc := 807) dL_law__807 rfl ?_
  refine gz_iconst (pc := 809) dL_law__809 (v := 2) (by decide) ?_
  refine gz_iadd (pc := 810) dL_law__810 ?_
  refine gz_sld (j := i + 2) (pc := 811) dL_law__811 (Int32.ofNat_add i 2).symm (by omega) ?_
  refine gz_aload_n (pc := 812) dL_law__812 rfl ?_
  refine gz_iload (pc := 813) dL_law__813 rfl ?_
  refine gz_iconst (pc := 815) dL_law__815 (v := 3) (by decide) ?_
  refine gz_iadd (pc := 816) dL_law__816 ?_
  refine gz_sld (j := i + 3) (pc := 817) dL_law__817 (Int32.ofNat_add i 3).symm (by omega) ?_
  refine gz_aload_n (pc := 818) dL_law__818 rfl ?_
  refine gz_SH (zy := mL_insult) (hh := hL_insult) (zc := 1) (d := d + 129) (pc := 819) [.inr (.inr (0, 30)), .inl (gzXs g (i + 1)), .inl (gzXs g (i + 2)), .inl (gzXs g (i + 3)), .inr (.inr (0, 59))] rfl dL_law__819 lhL_insult MhL_insult rfl (Or.inr rfl) (fun _ => by omega) (by exact Nat.le_of_ble_eq_true rfl) ?_
  refine gzCh.mono (h_L_insult (d := d + 68) hf hE) ?_
  cases e with
  | ok v0 =>
    rintro _ _ ⟨rfl, rfl⟩
    obtain ⟨v, I2, J2, hm, hs, hj, hR⟩ := hM (gz_uj J 0 59 0 (gzCvI v0))
    obtain ⟨rfl, hth⟩ := hs
    show gzX g 512 (d + 130) mLaw 822 [some (.inr (.inr (0, 61))), some (.inr (.inr (0, 30))), some (.inr (.inr (0, 47))), some (.inr (.inr (0, 59))), some (.inl (Int32.ofNat i)), none, none] [.inl 0] (gzN, gzR0, I1, gz_uj J 0 59 0 (gzCvI v0)) (z + 1) Q
    refine gz_istore (pc := 822) dL_law__822 (by decide) rfl (loc2 := [some (.inr (.inr (0, 61))), some (.inr (.inr (0, 30))), some (.inr (.inr (0, 47))), some (.inr (.inr (0, 59))), some (.inl (Int32.ofNat i)), some (.inl 0), none]) rfl ?_
    refine gz_aload_n (pc := 824) dL_law__824 rfl ?_
    refine gz_aload_n (pc := 825) dL_law__825 rfl ?_
    refine gz_iload (pc := 826) dL_law__826 rfl ?_
    refine gz_iconst (pc := 828) dL_law__828 (v := 1) (by decide) ?_
    refine gz_iadd (pc := 829) dL_law__829 ?_
    refine gz_sld (j := i + 1) (pc := 830) dL_law__830 (Int32.ofNat_add i 1).symm (by omega) ?_
    refine gz_aload_n (pc := 831) dL_law__831 rfl ?_
    refine gz_iload (pc := 832) dL_law__832 rfl ?_
    refine gz_iconst (pc := 834) dL_law__834 (v := 2) (by decide) ?_
    refine gz_iadd (pc := 835) dL_law__835 ?_
    refine gz_sld (j := i + 2) (pc := 836) dL_law__836 (Int32.ofNat_add i 2).symm (by omega) ?_
    refine gz_aload_n (pc := 837) dL_law__837 rfl ?_
    refine gz_iload (pc := 838) dL_law__838 rfl ?_
    refine gz_iconst (pc := 840) dL_law__840 (v := 3) (by decide) ?_
    refine gz_iadd (pc := 841) dL_law__841 ?_
    refine gz_sld (j := i + 3) (pc := 842) dL_law__842 (Int32.ofNat_add i 3).symm (by omega) ?_
    refine gz_V (zy := mX12_insult) (zc := 0) (d := d + 129) (pc := 843) (t := 0) (o := 47) (ci := 12) (r := (RX12, TX12, 21)) [.inl (gzXs g (i + 1)), .inl (gzXs g (i + 2)), .inl (gzXs g (i + 3))] rfl dL_law__843 lkL_164 MvX12_insult rfl (gzOk_of (by decide)) rfl rfl rfl (Or.inr rfl) (fun h => h) (by exact Nat.le_of_ble_eq_true rfl) ?_
    refine gz_useI (d := d + 129) (c_X12_insult (d := d + 125) hm) ?_
    refine gz_istore (pc := 846) dL_law__846 (by decide) rfl (loc2 := [some (.inr (.inr (0, 61))), some (.inr (.inr (0, 30))), some (.inr (.inr (0, 47))), some (.inr (.inr (0, 59))), some (.inl (Int32.ofNat i)), some (.inl 0), some (.inl v0)]) rfl ?_
    refine gz_aload_n (pc := 848) dL_law__848 rfl ?_
    refine gz_V (zy := mX12_thrown) (zc := 0) (d := d + 129) (pc := 849) (t := 0) (o := 47) (ci := 12) (r := (RX12, TX12, 21)) [] rfl dL_law__849 lkL_134 MvX12_thrown rfl (gzOk_of (by decide)) rfl rfl rfl (Or.inr rfl) (fun h => h) (by exact Nat.le_of_ble_eq_true rfl) ?_
    refine gz_useI (d := d + 129) (c_X12_thrown (d := d + 129) rfl) ?_
    dsimp only
    rw [hth]
    refine gz_iload (pc := 852) dL_law__852 rfl ?_
    refine gz_ic_eq (pc := 854) (tgt := 859) dL_law__854 (by decide) (fun _ => ?_) (fun c => absurd rfl c)
    refine gz_iload (pc := 859) dL_law__859 rfl ?_
    refine gz_if_ne (pc := 861) (tgt := 876) dL_law__861 (by decide) (fun c => absurd rfl c) (fun _ => ?_)
    refine gz_aload_n (pc := 864) dL_law__864 rfl ?_
    refine gz_iconst (pc := 865) dL_law__865 (v := 0) (by decide) ?_
    refine gz_lald (N := 1) (pc := 866) dL_law__866 (gzOk_of (by decide)) rfl (gz_vpd (by decide)) ?_
    rw [show J2 0 59 (0 : Int32).toNatClampNeg = gzCvI v0 from hj.trans gz_uj_s0]
    refine gz_iload (pc := 867) dL_law__867 rfl ?_
    refine gz_i2l (pc := 869) dL_law__869 ?_
    refine gz_lcmp (pc := 870) dL_law__870 ?_
    first | rw [show lg_cmp (gzCvI v0) v0.toInt64 = 0 from gz_cmp_self] | rw [gz_cmp_self]
    refine gz_if_eq (pc := 871) (tgt := 876) dL_law__871 (by decide) (fun _ => ?_) (fun c => absurd rfl c)
    refine gz_goto (pc := 876) (tgt := 2739) dL_law__876 (by decide) ?_
    exact K _ _ _ _ _ hR (by omega) (by omega)
  | error E =>
    rintro _ _ ⟨kk, hk, rfl, rfl⟩
    obtain ⟨v, I2, J2, hm, ⟨k2, hk2, hth⟩, hj, hR⟩ := hM J
    have ekk : k2 = kk := gzHs_inj (by decide) hk2 hk
    subst ekk
    have hkl : k2 < 2 ^ 20 := gzHs_lt hk (by decide)
    show gzX g 512 (d + 130) mLaw 822 [some (.inr (.inr (0, 61))), some (.inr (.inr (0, 30))), some (.inr (.inr (0, 47))), some (.inr (.inr (0, 59))), some (.inl (Int32.ofNat i)), none, none] [.inl (Int32.ofNat (k2 + 1))] (gzN, gzR0, I1, J) (z + 1) Q
    refine gz_istore (pc := 822) dL_law__822 (by decide) rfl (loc2 := [some (.inr (.inr (0, 61))), some (.inr (.inr (0, 30))), some (.inr (.inr (0, 47))), some (.inr (.inr (0, 59))), some (.inl (Int32.ofNat i)), some (.inl (Int32.ofNat (k2 + 1))), none]) rfl ?_
    refine gz_aload_n (pc := 824) dL_law__824 rfl ?_
    refine gz_aload_n (pc := 825) dL_law__825 rfl ?_
    refine gz_iload (pc := 826) dL_law__826 rfl ?_
    refine gz_iconst (pc := 828) dL_law__828 (v := 1) (by decide) ?_
    refine gz_iadd (pc := 829) dL_law__829 ?_
    refine gz_sld (j := i + 1) (pc := 830) dL_law__830 (Int32.ofNat_add i 1).symm (by omega) ?_
    refine gz_aload_n (pc := 831) dL_law__831 rfl ?_
    refine gz_iload (pc := 832) dL_law__832 rfl ?_
    refine gz_iconst (pc := 834) dL_law__834 (v := 2) (by decide) ?_
    refine gz_iadd (pc := 835) dL_law__835 ?_
    refine gz_sld (j := i + 2) (pc := 836) dL_law__836 (Int32.ofNat_add i 2).symm (by omega) ?_
    refine gz_aload_n (pc := 837) dL_law__837 rfl ?_
    refine gz_iload (pc := 838) dL_law__838 rfl ?_
    refine gz_iconst (pc := 840) dL_law__840 (v := 3) (by decide) ?_
    refine gz_iadd (pc := 841) dL_law__841 ?_
    refine gz_sld (j := i + 3) (pc := 842) dL_law__842 (Int32.ofNat_add i 3).symm (by omega) ?_
    refine gz_V (zy := mX12_insult) (zc := 0) (d := d + 129) (pc := 843) (t := 0) (o := 47) (ci := 12) (r := (RX12, TX12, 21)) [.inl (gzXs g (i + 1)), .inl (gzXs g (i + 2)), .inl (gzXs g (i + 3))] rfl dL_law__843 lkL_164 MvX12_insult rfl (gzOk_of (by decide)) rfl rfl rfl (Or.inr rfl) (fun h => h) (by exact Nat.le_of_ble_eq_true rfl) ?_
    refine gz_useI (d := d + 129) (c_X12_insult (d := d + 125) hm) ?_
    refine gz_istore (pc := 846) dL_law__846 (by decide) rfl (loc2 := [some (.inr (.inr (0, 61))), some (.inr (.inr (0, 30))), some (.inr (.inr (0, 47))), some (.inr (.inr (0, 59))), some (.inl (Int32.ofNat i)), some (.inl (Int32.ofNat (k2 + 1))), some (.inl v)]) rfl ?_
    refine gz_aload_n (pc := 848) dL_law__848 rfl ?_
    refine gz_V (zy := mX12_thrown) (zc := 0) (d := d + 129) (pc := 849) (t := 0) (o := 47) (ci := 12) (r := (RX12, TX12, 21)) [] rfl dL_law__849 lkL_134 MvX12_thrown rfl (gzOk_of (by decide)) rfl rfl rfl (Or.inr rfl) (fun h => h) (by exact Nat.le_of_ble_eq_true rfl) ?_
    refine gz_useI (d := d + 129) (c_X12_thrown (d := d + 129) rfl) ?_
    dsimp only
    rw [hth]
    refine gz_iload (pc := 852) dL_law__852 rfl ?_
    refine gz_ic_eq (pc := 854) (tgt := 859) dL_law__854 (by decide) (fun _ => ?_) (fun c => absurd rfl c)
    refine gz_iload (pc := 859) dL_law__859 rfl ?_
    refine gz_if_ne (pc := 861) (tgt := 876) dL_law__861 (by decide) (fun _ => ?_) (fun c => absurd c (gzHs_ne hkl))
    refine gz_goto (pc := 876) (tgt := 2739) dL_law__876 (by decide) ?_
    exact K _ _ _ _ _ hR (by omega) (by omega)
set_option maxRecDepth 20000 in
theorem b_11 {g : gzG} {d i z : Nat} {I : gzIT} {J : gzJT} {Q : gzO → gzS → Prop} (hi : i + 6 ≤ g.2.2.2.2.2 1 61) (hz : z + 1 ≤ 512) (h : gzR I I) (K : ∀ (l5 l6 : Option gzV) (I2 : gzIT) (J2 : gzJT) (z2 : Nat), gzR I2 I2 → z ≤ z2 → z2 ≤ z + 1 → gzX g 512 (d + 130) mLaw 2739 [some (.inr (.inr (0, 61))), some (.inr (.inr (0, 30))), some (.inr (.inr (0, 47))), some (.inr (.inr (0, 59))), some (.inl (Int32.ofNat i)), l5, l6] [] (gzN, gzR0, I2, J2) z2 Q) :
    gzX g 512 (d + 130) mLaw 879 [some (.inr (.inr (0, 61))), some (.inr (.inr (0, 30))), some (.inr (.inr (0, 47))), some (.inr (.inr (0, 59))), some (.inl (Int32.ofNat i)), none, none] [] (gzN, gzR0, I, J) z Q := by
  obtain ⟨e, I1, hf, hE, hM⟩ := L_forgive (J := J) (gzXs g (i + 1)) h
  refine gz_aload_n (pc := 879) dL_law__879 rfl ?_
  refine gz_aload_n (pc := 880) dL_law__880 rfl ?_
  refine gz_iload (pc := 881) dL_law__881 rfl ?_
  refine gz_iconst (pc := 883) dL_law__883 (v := 1) (by decide) ?_
  refine gz_iadd (pc := 884) dL_law__884 ?_
  refine gz_sld (j := i + 1) (pc := 885) dL_law__885 (Int32.ofNat_add i 1).symm (by omega) ?_
  refine gz_aload_n (pc := 886) dL_law__886 rfl ?_
  refine gz_SH (zy := mL_forgive) (hh := hL_forgive) (zc := 1) (d := d + 129) (pc := 887) [.inr (.inr (0, 30)), .inl (gzXs g (i + 1)), .inr (.inr (0, 59))] rfl dL_law__887 lhL_forgive MhL_forgive rfl (Or.inr rfl) (fun _ => by omega) (by exact Nat.le_of_ble_eq_true rfl) ?_
  refine gzCh.mono (h_L_forgive (d := d + 68) hf hE) ?_
  cases e with
  | ok v0 =>
    rintro _ _ ⟨rfl, rfl⟩
    obtain ⟨v, I2, J2, hm, hs, hj, hR⟩ := hM (gz_uj J 0 59 0 (gzCvI v0))
    obtain ⟨rfl, hth⟩ := hs
    show gzX g 512 (d + 130) mLaw 890 [some (.inr (.inr (0, 61))), some (.inr (.inr (0, 30))), some (.inr (.inr (0, 47))), some (.inr (.inr (0, 59))), some (.inl (Int32.ofNat i)), none, none] [.inl 0] (gzN, gzR0, I1, gz_uj J 0 59 0 (gzCvI v0)) (z + 1) Q
    refine gz_istore (pc := 890) dL_law__890 (by decide) rfl (loc2 := [some (.inr (.inr (0, 61))), some (.inr (.inr (0, 30))), some (.inr (.inr (0, 47))), some (.inr (.inr (0, 59))), some (.inl (Int32.ofNat i)), some (.inl 0), none]) rfl ?_
    refine gz_aload_n (pc := 892) dL_law__892 rfl ?_
    refine gz_aload_n (pc := 893) dL_law__893 rfl ?_
    refine gz_iload (pc := 894) dL_law__894 rfl ?_
    refine gz_iconst (pc := 896) dL_law__896 (v := 1) (by decide) ?_
    refine gz_iadd (pc := 897) dL_law__897 ?_
    refine gz_sld (j := i + 1) (pc := 898) dL_law__898 (Int32.ofNat_add i 1).symm (by omega) ?_
    refine gz_V (zy := mX12_forgive) (zc := 0) (d := d + 129) (pc := 899) (t := 0) (o := 47) (ci := 12) (r := (RX12, TX12, 21)) [.inl (gzXs g (i + 1))] rfl dL_law__899 lkL_167 MvX12_forgive rfl (gzOk_of (by decide)) rfl rfl rfl (Or.inr rfl) (fun h => h) (by exact Nat.le_of_ble_eq_true rfl) ?_
    refine gz_useI (d := d + 129) (c_X12_forgive (d := d + 126) hm) ?_
    refine gz_istore (pc := 902) dL_law__902 (by decide) rfl (loc2 := [some (.inr (.inr (0, 61))), some (.inr (.inr (0, 30))), some (.inr (.inr (0, 47))), some (.inr (.inr (0, 59))), some (.inl (Int32.ofNat i)), some (.inl 0), some (.inl v0)]) rfl ?_
    refine gz_aload_n (pc := 904) dL_law__904 rfl ?_
    refine gz_V (zy := mX12_thrown) (zc := 0) (d := d + 129) (pc := 905) (t := 0) (o := 47) (ci := 12) (r := (RX12, TX12, 21)) [] rfl dL_law__905 lkL_134 MvX12_thrown rfl (gzOk_of (by decide)) rfl rfl rfl (Or.inr rfl) (fun h => h) (by exact Nat.le_of_ble_eq_true rfl) ?_
    refine gz_useI (d := d + 129) (c_X12_thrown (d := d + 129) rfl) ?_
    dsimp only
    rw [hth]
    refine gz_iload (pc := 908) dL_law__908 rfl ?_
    refine gz_ic_eq (pc := 910) (tgt := 915) dL_law__910 (by decide) (fun _ => ?_) (fun c => absurd rfl c)
    refine gz_iload (pc := 915) dL_law__915 rfl ?_
    refine gz_if_ne (pc := 917) (tgt := 932) dL_law__917 (by decide) (fun c => absurd rfl c) (fun _ => ?_)
    refine gz_aload_n (pc := 920) dL_law__920 rfl ?_
    refine gz_iconst (pc := 921) dL_law__921 (v := 0) (by decide) ?_
    refine gz_lald (N := 1) (pc := 922) dL_law__922 (gzOk_of (by decide)) rfl (gz_vpd (by decide)) ?_
    rw [show J2 0 59 (0 : Int32).toNatClampNeg = gzCvI v0 from hj.trans gz_uj_s0]
    refine gz_iload (pc := 923) dL_law__923 rfl ?_
    refine gz_i2l (pc := 925) dL_law__925 ?_
    refine gz_lcmp (pc := 926) dL_law__926 ?_
    first | rw [show lg_cmp (gzCvI v0) v0.toInt64 = 0 from gz_cmp_self] | rw [gz_cmp_self]
    refine gz_if_eq (pc := 927) (tgt := 932) dL_law__927 (by decide) (fun _ => ?_) (fun c => absurd rfl c)
    refine gz_goto (pc := 932) (tgt := 2739) dL_law__932 (by decide) ?_
    exact K _ _ _ _ _ hR (by omega) (by omega)
  | error E =>
    rintro _ _ ⟨kk, hk, rfl, rfl⟩
    obtain ⟨v, I2, J2, hm, ⟨k2, hk2, hth⟩, hj, hR⟩ := hM J
    have ekk : k2 = kk := gzHs_inj (by decide) hk2 hk
    subst ekk
    have hkl : k2 < 2 ^ 20 := gzHs_lt hk (by decide)
    show gzX g 512 (d + 130) mLaw 890 [some (.inr (.inr (0, 61))), some (.inr (.inr (0, 30))), some (.inr (.inr (0, 47))), some (.inr (.inr (0, 59))), some (.inl (Int32.ofNat i)), none, none] [.inl (Int32.ofNat (k2 + 1))] (gzN, gzR0, I1, J) (z + 1) Q
    refine gz_istore (pc := 890) dL_law__890 (by decide) rfl (loc2 := [some (.inr (.inr (0, 61))), some (.inr (.inr (0, 30))), some (.inr (.inr (0, 47))), some (.inr (.inr (0, 59))), some (.inl (Int32.ofNat i)), some (.inl (Int32.ofNat (k2 + 1))), none]) rfl ?_
    refine gz_aload_n (pc := 892) dL_law__892 rfl ?_
    refine gz_aload_n (pc := 893) dL_law__893 rfl ?_
    refine gz_iload (pc := 894) dL_law__894 rfl ?_
    refine gz_iconst (pc := 896) dL_law__896 (v := 1) (by decide) ?_
    refine gz_iadd (pc := 897) dL_law__897 ?_
    refine gz_sld (j := i + 1) (pc := 898) dL_law__898 (Int32.ofNat_add i 1).symm (by omega) ?_
    refine gz_V (zy := mX12_forgive) (zc := 0) (d := d + 129) (pc := 899) (t := 0) (o := 47) (ci := 12) (r := (RX12, TX12, 21)) [.inl (gzXs g (i + 1))] rfl dL_law__899 lkL_167 MvX12_forgive rfl (gzOk_of (by decide)) rfl rfl rfl (Or.inr rfl) (fun h => h) (by exact Nat.le_of_ble_eq_true rfl) ?_
    refine gz_useI (d := d + 129) (c_X12_forgive (d := d + 126) hm) ?_
    refine gz_istore (pc := 902) dL_law__902 (by decide) rfl (loc2 := [some (.inr (.inr (0, 61))), some (.inr (.inr (0, 30))), some (.inr (.inr (0, 47))), some (.inr (.inr (0, 59))), some (.inl (Int32.ofNat i)), some (.inl (Int32.ofNat (k2 + 1))), some (.inl v)]) rfl ?_
    refine gz_aload_n (pc := 904) dL_law__904 rfl ?_
    refine gz_V (zy := mX12_thrown) (zc := 0) (d := d + 129) (pc := 905) (t := 0) (o := 47) (ci := 12) (r := (RX12, TX12, 21)) [] rfl dL_law__905 lkL_134 MvX12_thrown rfl (gzOk_of (by decide)) rfl rfl rfl (Or.inr rfl) (fun h => h) (by exact Nat.le_of_ble_eq_true rfl) ?_
    refine gz_useI (d := d + 129) (c_X12_thrown (d := d + 129) rfl) ?_
    dsimp only
    rw [hth]
    refine gz_iload (pc := 908) dL_law__908 rfl ?_
    refine gz_ic_eq (pc := 910) (tgt := 915) dL_law__910 (by decide) (fun _ => ?_) (fun c => absurd rfl c)
    refine gz_iload (pc := 915) dL_law__915 rfl ?_
    refine gz_if_ne (pc := 917) (tgt := 932) dL_law__917 (by decide) (fun _ => ?_) (fun c => absurd c (gzHs_ne hkl))
    refine gz_goto (pc := 932) (tgt := 2739) dL_law__932 (by decide) ?_
    exact K _ _ _ _ _ hR (by omega) (by omega)
set_option maxRecDepth 20000 in
theorem b_12 {g : gzG} {d i z : Nat} {I : gzIT} {J : gzJT} {Q : gzO → gzS → Prop} (hi : i + 6 ≤ g.2.2.2.2.2 1 61) (hz : z + 1 ≤ 512) (h : gzR I I) (K : ∀ (l5 l6 : Option gzV) (I2 : gzIT) (J2 : gzJT) (z2 : Nat), gzR I2 I2 → z ≤ z2 → z2 ≤ z + 1 → gzX g 512 (d + 130) mLaw 2739 [some (.inr (.inr (0, 61))), some (.inr (.inr (0, 30))), some (.inr (.inr (0, 47))), some (.inr (.inr (0, 59))), some (.inl (Int32.ofNat i)), l5, l6] [] (gzN, gzR0, I2, J2) z2 Q) :
    gzX g 512 (d + 130) mLaw 935 [some (.inr (.inr (0, 61))), some (.inr (.inr (0, 30))), some (.inr (.inr (0, 47))), some (.inr (.inr (0, 59))), some (.inl (Int32.ofNat i)), none, none] [] (gzN, gzR0, I, J) z Q := by
  by_cases hb2 : gzXs g (i + 2) = 0
  · skip
    obtain ⟨e, I1, hf, hE, hM⟩ := L_nurse (J := J) (gzXs g (i + 1)) 0 (Or.inl rfl) h
    refine gz_aload_n (pc := 935) dL_law__935 rfl ?_
    refine gz_aload_n (pc := 936) dL_law__936 rfl ?_
    refine gz_iload (pc := 937) dL_law__937 rfl ?_
    refine gz_iconst (pc := 939) dL_law__939 (v := 1) (by decide) ?_
    refine gz_iadd (pc := 940) dL_law__940 ?_
    refine gz_sld (j := i + 1) (pc := 941) dL_law__941 (Int32.ofNat_add i 1).symm (by omega) ?_
    refine gz_aload_n (pc := 942) dL_law__942 rfl ?_
    refine gz_iload (pc := 943) dL_law__943 rfl ?_
    refine gz_iconst (pc := 945) dL_law__945 (v := 2) (by decide) ?_
    refine gz_iadd (pc := 946) dL_law__946 ?_
    refine gz_sld (j := i + 2) (pc := 947) dL_law__947 (Int32.ofNat_add i 2).symm (by omega) ?_
    refine gz_if_eq (pc := 948) (tgt := 955) dL_law__948 (by decide) (fun _ => ?_) (fun c => absurd hb2 c)
    refine gz_iconst (pc := 955) dL_law__955 (v := 0) (by decide) ?_
    refine gz_aload_n (pc := 956) dL_law__956 rfl ?_
    refine gz_SH (zy := mL_nurse) (hh := hL_nurse) (zc := 1) (d := d + 129) (pc := 957) [.inr (.inr (0, 30)), .inl (gzXs g (i + 1)), .inl 0, .inr (.inr (0, 59))] rfl dL_law__957 lhL_nurse MhL_nurse rfl (Or.inr rfl) (fun _ => by omega) (by exact Nat.le_of_ble_eq_true rfl) ?_
    refine gzCh.mono (h_L_nurse (d := d + 68) hf hE) ?_
    cases e with
    | ok v0 =>
      rintro _ _ ⟨rfl, rfl⟩
      obtain ⟨v, I2, J2, hm, hs, hj, hR⟩ := hM (gz_uj J 0 59 0 (gzCvZ v0))
      obtain ⟨rfl, hth⟩ := hs
      show gzX g 512 (d + 130) mLaw 960 [some (.inr (.inr (0, 61))), some (.inr (.inr (0, 30))), some (.inr (.inr (0, 47))), some (.inr (.inr (0, 59))), some (.inl (Int32.ofNat i)), none, none] [.inl 0] (gzN, gzR0, I1, gz_uj J 0 59 0 (gzCvZ v0)) (z + 1) Q
      refine gz_istore (pc := 960) dL_law__960 (by decide) rfl (loc2 := [some (.inr (.inr (0, 61))), some (.inr (.inr (0, 30))), some (.inr (.inr (0, 47))), some (.inr (.inr (0, 59))), some (.inl (Int32.ofNat i)), some (.inl 0), none]) rfl ?_
      refine gz_aload_n (pc := 962) dL_law__962 rfl ?_
      refine gz_aload_n (pc := 963) dL_law__963 rfl ?_
      refine gz_iload (pc := 964) dL_law__964 rfl ?_
      refine gz_iconst (pc := 966) dL_law__966 (v := 1) (by decide) ?_
      refine gz_iadd (pc := 967) dL_law__967 ?_
      refine gz_sld (j := i + 1) (pc := 968) dL_law__968 (Int32.ofNat_add i 1).symm (by omega) ?_
      refine gz_aload_n (pc := 969) dL_law__969 rfl ?_
      refine gz_iload (pc := 970) dL_law__970 rfl ?_
      refine gz_iconst (pc := 972) dL_law__972 (v := 2) (by decide) ?_
      refine gz_iadd (pc := 973) dL_law__973 ?_
      refine gz_sld (j := i + 2) (pc := 974) dL_law__974 (Int32.ofNat_add i 2).symm (by omega) ?_
      refine gz_if_eq (pc := 975) (tgt := 982) dL_law__975 (by decide) (fun _ => ?_) (fun c => absurd hb2 c)
      refine gz_iconst (pc := 982) dL_law__982 (v := 0) (by decide) ?_
      refine gz_V (zy := mX12_nurse) (zc := 0) (d := d + 129) (pc := 983) (t := 0) (o := 47) (ci := 12) (r := (RX12, TX12, 21)) [.inl (gzXs g (i + 1)), .inl 0] rfl dL_law__983 lkL_171 MvX12_nurse rfl (gzOk_of (by decide)) rfl rfl rfl (Or.inr rfl) (fun h => h) (by exact Nat.le_of_ble_eq_true rfl) ?_
      refine gz_useI (d := d + 129) (c_X12_nurse (d := d + 126) hm) ?_
      refine gz_istore (pc := 986) dL_law__986 (by decide) rfl (loc2 := [some (.inr (.inr (0, 61))), some (.inr (.inr (0, 30))), some (.inr (.inr (0, 47))), some (.inr (.inr (0, 59))), some (.inl (Int32.ofNat i)), some (.inl 0), some (.inl v0)]) rfl ?_
      refine gz_aload_n (pc := 988) dL_law__988 rfl ?_
      refine gz_V (zy := mX12_thrown) (zc := 0) (d := d + 129) (pc := 989) (t := 0) (o := 47) (ci := 12) (r := (RX12, TX12, 21)) [] rfl dL_law__989 lkL_134 MvX12_thrown rfl (gzOk_of (by decide)) rfl rfl rfl (Or.inr rfl) (fun h => h) (by exact Nat.le_of_ble_eq_true rfl) ?_
      refine gz_useI (d := d + 129) (c_X12_thrown (d := d + 129) rfl) ?_
      dsimp only
      rw [hth]
      refine gz_iload (pc := 992) dL_law__992 rfl ?_
      refine gz_ic_eq (pc := 994) (tgt := 999) dL_law__994 (by decide) (fun _ => ?_) (fun c => absurd rfl c)
      refine gz_iload (pc := 999) dL_law__999 rfl ?_
      refine gz_if_ne (pc := 1001) (tgt := 1023) dL_law__1001 (by decide) (fun c => absurd rfl c) (fun _ => ?_)
      refine gz_aload_n (pc := 1004) dL_law__1004 rfl ?_
      refine gz_iconst (pc := 1005) dL_law__1005 (v := 0) (by decide) ?_
      refine gz_lald (N := 1) (pc := 1006) dL_law__1006 (gzOk_of (by decide)) rfl (gz_vpd (by decide)) ?_
      rw [show J2 0 59 (0 : Int32).toNatClampNeg = gzCvZ v0 from hj.trans gz_uj_s0]
      refine gz_iload (pc := 1007) dL_law__1007 rfl ?_
      refine gz_if_eq (pc := 1009) (tgt := 1016) dL_law__1009 (by decide) (fun hv => ?_) (fun hv => ?_)
      · rw [show gzCvZ v0 = 0 from if_pos hv]
        refine gz_lconst (pc := 1016) dL_law__1016 (v := 0) (by decide) ?_
        refine gz_lcmp (pc := 1017) dL_law__1017 ?_
        first | rw [show lg_cmp (gzCvI v0) v0.toInt64 = 0 from gz_cmp_self] | rw [gz_cmp_self]
        refine gz_if_eq (pc := 1018) (tgt := 1023) dL_law__1018 (by decide) (fun _ => ?_) (fun c => absurd rfl c)
        refine gz_goto (pc := 1023) (tgt := 2739) dL_law__1023 (by decide) ?_
        exact K _ _ _ _ _ hR (by omega) (by omega)
      · rw [show gzCvZ v0 = 1 from if_neg hv]
        refine gz_lconst (pc := 1012) dL_law__1012 (v := 1) (by decide) ?_
        refine gz_goto (pc := 1013) (tgt := 1017) dL_law__1013 (by decide) ?_
        refine gz_lcmp (pc := 1017) dL_law__1017 ?_
        first | rw [show lg_cmp (gzCvI v0) v0.toInt64 = 0 from gz_cmp_self] | rw [gz_cmp_self]
        refine gz_if_eq (pc := 1018) (tgt := 1023) dL_law__1018 (by decide) (fun _ => ?_) (fun c => absurd rfl c)
        refine gz_goto (pc := 1023) (tgt := 2739) dL_law__1023 (by decide) ?_
        exact K _ _ _ _ _ hR (by omega) (by omega)
    | error E =>
      rintro _ _ ⟨kk, hk, rfl, rfl⟩
      obtain ⟨v, I2, J2, hm, ⟨k2, hk2, hth⟩, hj, hR⟩ := hM J
      have ekk : k2 = kk := gzHs_inj (by decide) hk2 hk
      subst ekk
      have hkl : k2 < 2 ^ 20 := gzHs_lt hk (by decide)
      show gzX g 512 (d + 130) mLaw 960 [some (.inr (.inr (0, 61))), some (.inr (.inr (0, 30))), some (.inr (.inr (0, 47))), some (.inr (.inr (0, 59))), some (.inl (Int32.ofNat i)), none, none] [.inl (Int32.ofNat (k2 + 1))] (gzN, gzR0, I1, J) (z + 1) Q
      refine gz_istore (pc := 960) dL_law__960 (by decide) rfl (loc2 := [some (.inr (.inr (0, 61))), some (.inr (.inr (0, 30))), some (.inr (.inr (0, 47))), some (.inr (.inr (0, 59))), some (.inl (Int32.ofNat i)), some (.inl (Int32.ofNat (k2 + 1))), none]) rfl ?_
      refine gz_aload_n (pc := 962) dL_law__962 rfl ?_
      refine gz_aload_n (pc := 963) dL_law__963 rfl ?_
      refine gz_iload (pc := 964) dL_law__964 rfl ?_
      refine gz_iconst (pc := 966) dL_law__966 (v := 1) (by decide) ?_
      refine gz_iadd (pc := 967) dL_law__967 ?_
      refine gz_sld (j := i + 1) (pc := 968) dL_law__968 (Int32.ofNat_add i 1).symm (by omega) ?_
      refine gz_aload_n (pc := 969) dL_law__969 rfl ?_
      refine gz_iload (pc := 970) dL_law__970 rfl ?_
      refine gz_iconst (pc := 972) dL_law__972 (v := 2) (by decide) ?_
      refine gz_iadd (pc := 973) dL_law__973 ?_
      refine gz_sld (j := i + 2) (pc := 974) dL_law__974 (Int32.ofNat_add i 2).symm (by omega) ?_
      refine gz_if_eq (pc := 975) (tgt := 982) dL_law__975 (by decide) (fun _ => ?_) (fun c => absurd hb2 c)
      refine gz_iconst (pc := 982) dL_law__982 (v := 0) (by decide) ?_
      refine gz_V (zy := mX12_nurse) (zc := 0) (d := d + 129) (pc := 983) (t := 0) (o := 47) (ci := 12) (r := (RX12, TX12, 21)) [.inl (gzXs g (i + 1)), .inl 0] rfl dL_law__983 lkL_171 MvX12_nurse rfl (gzOk_of (by decide)) rfl rfl rfl (Or.inr rfl) (fun h => h) (by exact Nat.le_of_ble_eq_true rfl) ?_
      refine gz_useI (d := d + 129) (c_X12_nurse (d := d + 126) hm) ?_
      refine gz_istore (pc := 986) dL_law__986 (by decide) rfl (loc2 := [some (.inr (.inr (0, 61))), some (.inr (.inr (0, 30))), some (.inr (.inr (0, 47))), some (.inr (.inr (0, 59))), some (.inl (Int32.ofNat i)), some (.inl (Int32.ofNat (k2 + 1))), some (.inl v)]) rfl ?_
      refine gz_aload_n (pc := 988) dL_law__988 rfl ?_
      refine gz_V (zy := mX12_thrown) (zc := 0) (d := d + 129) (pc := 989) (t := 0) (o := 47) (ci := 12) (r := (RX12, TX12, 21)) [] rfl dL_law__989 lkL_134 MvX12_thrown rfl (gzOk_of (by decide)) rfl rfl rfl (Or.inr rfl) (fun h => h) (by exact Nat.le_of_ble_eq_true rfl) ?_
      refine gz_useI (d := d + 129) (c_X12_thrown (d := d + 129) rfl) ?_
      dsimp only
      rw [hth]
      refine gz_iload (pc := 992) dL_law__992 rfl ?_
      refine gz_ic_eq (pc := 994) (tgt := 999) dL_law__994 (by decide) (fun _ => ?_) (fun c => absurd rfl c)
      refine gz_iload (pc := 999) dL_law__999 rfl ?_
      refine gz_if_ne (pc := 1001) (tgt := 1023) dL_law__1001 (by decide) (fun _ => ?_) (fun c => absurd c (gzHs_ne hkl))
      refine gz_goto (pc := 1023) (tgt := 2739) dL_law__1023 (by decide) ?_
      exact K _ _ _ _ _ hR (by omega) (by omega)
  · skip
    obtain ⟨e, I1, hf, hE, hM⟩ := L_nurse (J := J) (gzXs g (i + 1)) 1 (Or.inr rfl) h
    refine gz_aload_n (pc := 935) dL_law__935 rfl ?_
    refine gz_aload_n (pc := 936) dL_law__936 rfl ?_
    refine gz_iload (pc := 937) dL_law__937 rfl ?_
    refine gz_iconst (pc := 939) dL_law__939 (v := 1) (by decide) ?_
    refine gz_iadd (pc := 940) dL_law__940 ?_
    refine gz_sld (j := i + 1) (pc := 941) dL_law__941 (Int32.ofNat_add i 1).symm (by omega) ?_
    refine gz_aload_n (pc := 942) dL_law__942 rfl ?_
    refine gz_iload (pc := 943) dL_law__943 rfl ?_
    refine gz_iconst (pc := 945) dL_law__945 (v := 2) (by decide) ?_
    refine gz_iadd (pc := 946) dL_law__946 ?_
    refine gz_sld (j := i + 2) (pc := 947) dL_law__947 (Int32.ofNat_add i 2).symm (by omega) ?_
    refine gz_if_eq (pc := 948) (tgt := 955) dL_law__948 (by decide) (fun c => absurd c hb2) (fun _ => ?_)
    refine gz_iconst (pc := 951) dL_law__951 (v := 1) (by decide) ?_
    refine gz_goto (pc := 952) (tgt := 956) dL_law__952 (by decide) ?_
    refine gz_aload_n (pc := 956) dL_law__956 rfl ?_
    refine gz_SH (zy := mL_nurse) (hh := hL_nurse) (zc := 1) (d := d + 129) (pc := 957) [.inr (.inr (0, 30)), .inl (gzXs g (i + 1)), .inl 1, .inr (.inr (0, 59))] rfl dL_law__957 lhL_nurse MhL_nurse rfl (Or.inr rfl) (fun _ => by omega) (by exact Nat.le_of_ble_eq_true rfl) ?_
    refine gzCh.mono (h_L_nurse (d := d + 68) hf hE) ?_
    cases e with
    | ok v0 =>
      rintro _ _ ⟨rfl, rfl⟩
      obtain ⟨v, I2, J2, hm, hs, hj, hR⟩ := hM (gz_uj J 0 59 0 (gzCvZ v0))
      obtain ⟨rfl, hth⟩ := hs
      show gzX g 512 (d + 130) mLaw 960 [some (.inr (.inr (0, 61))), some (.inr (.inr (0, 30))), some (.inr (.inr (0, 47))), some (.inr (.inr (0, 59))), some (.inl (Int32.ofNat i)), none, none] [.inl 0] (gzN, gzR0, I1, gz_uj J 0 59 0 (gzCvZ v0)) (z + 1) Q
      refine gz_istore (pc := 960) dL_law__960 (by decide) rfl (loc2 := [some (.inr (.inr (0, 61))), some (.inr (.inr (0, 30))), some (.inr (.inr (0, 47))), some (.inr (.inr (0, 59))), some (.inl (Int32.ofNat i)), some (.inl 0), none]) rfl ?_
      refine gz_aload_n (pc := 962) dL_law__962 rfl ?_
      refine gz_aload_n (pc := 963) dL_law__963 rfl ?_
      refine gz_iload (pc := 964) dL_law__964 rfl ?_
      refine gz_iconst (pc := 966) dL_law__966 (v := 1) (by decide) ?_
      refine gz_iadd (pc := 967) dL_law__967 ?_
      refine gz_sld (j := i + 1) (pc := 968) dL_law__968 (Int32.ofNat_add i 1).symm (by omega) ?_
      refine gz_aload_n (pc := 969) dL_law__969 rfl ?_
      refine gz_iload (pc := 970) dL_law__970 rfl ?_
      refine gz_iconst (pc := 972) dL_law__972 (v := 2) (by decide) ?_
      refine gz_iadd (pc := 973) dL_law__973 ?_
      refine gz_sld (j := i + 2) (pc := 974) dL_law__974 (Int32.ofNat_add i 2).symm (by omega) ?_
      refine gz_if_eq (pc := 975) (tgt := 982) dL_law__975 (by decide) (fun c => absurd c hb2) (fun _ => ?_)
      refine gz_iconst (pc := 978) dL_law__978 (v := 1) (by decide) ?_
      refine gz_goto (pc := 979) (tgt := 983) dL_law__979 (by decide) ?_
      refine gz_V (zy := mX12_nurse) (zc := 0) (d := d + 129) (pc := 983) (t := 0) (o := 47) (ci := 12) (r := (RX12, TX12, 21)) [.inl (gzXs g (i + 1)), .inl 1] rfl dL_law__983 lkL_171 MvX12_nurse rfl (gzOk_of (by decide)) rfl rfl rfl (Or.inr rfl) (fun h => h) (by exact Nat.le_of_ble_eq_true rfl) ?_
      refine gz_useI (d := d + 129) (c_X12_nurse (d := d + 126) hm) ?_
      refine gz_istore (pc := 986) dL_law__986 (by decide) rfl (loc2 := [some (.inr (.inr (0, 61))), some (.inr (.inr (0, 30))), some (.inr (.inr (0, 47))), some (.inr (.inr (0, 59))), some (.inl (Int32.ofNat i)), some (.inl 0), some (.inl v0)]) rfl ?_
      refine gz_aload_n (pc := 988) dL_law__988 rfl ?_
      refine gz_V (zy := mX12_thrown) (zc := 0) (d := d + 129) (pc := 989) (t := 0) (o := 47) (ci := 12) (r := (RX12, TX12, 21)) [] rfl dL_law__989 lkL_134 MvX12_thrown rfl (gzOk_of (by decide)) rfl rfl rfl (Or.inr rfl) (fun h => h) (by exact Nat.le_of_ble_eq_true rfl) ?_
      refine gz_useI (d := d + 129) (c_X12_thrown (d := d + 129) rfl) ?_
      dsimp only
      rw [hth]
      refine gz_iload (pc := 992) dL_law__992 rfl ?_
      refine gz_ic_eq (pc := 994) (tgt := 999) dL_law__994 (by decide) (fun _ => ?_) (fun c => absurd rfl c)
      refine gz_iload (pc := 999) dL_law__999 rfl ?_
      refine gz_if_ne (pc := 1001) (tgt := 1023) dL_law__1001 (by decide) (fun c => absurd rfl c) (fun _ => ?_)
      refine gz_aload_n (pc := 1004) dL_law__1004 rfl ?_
      refine gz_iconst (pc := 1005) dL_law__1005 (v := 0) (by decide) ?_
      refine gz_lald (N := 1) (pc := 1006) dL_law__1006 (gzOk_of (by decide)) rfl (gz_vpd (by decide)) ?_
      rw [show J2 0 59 (0 : Int32).toNatClampNeg = gzCvZ v0 from hj.trans gz_uj_s0]
      refine gz_iload (pc := 1007) dL_law__1007 rfl ?_
      refine gz_if_eq (pc := 1009) (tgt := 1016) dL_law__1009 (by decide) (fun hv => ?_) (fun hv => ?_)
      · rw [show gzCvZ v0 = 0 from if_pos hv]
        refine gz_lconst (pc := 1016) dL_law__1016 (v := 0) (by decide) ?_
        refine gz_lcmp (pc := 1017) dL_law__1017 ?_
        first | rw [show lg_cmp (gzCvI v0) v0.toInt64 = 0 from gz_cmp_self] | rw [gz_cmp_self]
        refine gz_if_eq (pc := 1018) (tgt := 1023) dL_law__1018 (by decide) (fun _ => ?_) (fun c => absurd rfl c)
        refine gz_goto (pc := 1023) (tgt := 2739) dL_law__1023 (by decide) ?_
        exact K _ _ _ _ _ hR (by omega) (by omega)
      · rw [show gzCvZ v0 = 1 from if_neg hv]
        refine gz_lconst (pc := 1012) dL_law__1012 (v := 1) (by decide) ?_
        refine gz_goto (pc := 1013) (tgt := 1017) dL_law__1013 (by decide) ?_
        refine gz_lcmp (pc := 1017) dL_law__1017 ?_
        first | rw [show lg_cmp (gzCvI v0) v0.toInt64 = 0 from gz_cmp_self] | rw [gz_cmp_self]
        refine gz_if_eq (pc := 1018) (tgt := 1023) dL_law__1018 (by decide) (fun _ => ?_) (fun c => absurd rfl c)
        refine gz_goto (pc := 1023) (tgt := 2739) dL_law__1023 (by decide) ?_
        exact K _ _ _ _ _ hR (by omega) (by omega)
    | error E =>
      rintro _ _ ⟨kk, hk, rfl, rfl⟩
      obtain ⟨v, I2, J2, hm, ⟨k2, hk2, hth⟩, hj, hR⟩ := hM J
      have ekk : k2 = kk := gzHs_inj (by decide) hk2 hk
      subst ekk
      have hkl : k2 < 2 ^ 20 := gzHs_lt hk (by decide)
      show gzX g 512 (d + 130) mLaw 960 [some (.inr (.inr (0, 61))), some (.inr (.inr (0, 30))), some (.inr (.inr (0, 47))), some (.inr (.inr (0, 59))), some (.inl (Int32.ofNat i)), none, none] [.inl (Int32.ofNat (k2 + 1))] (gzN, gzR0, I1, J) (z + 1) Q
      refine gz_istore (pc := 960) dL_law__960 (by decide) rfl (loc2 := [some (.inr (.inr (0, 61))), some (.inr (.inr (0, 30))), some (.inr (.inr (0, 47))), some (.inr (.inr (0, 59))), some (.inl (Int32.ofNat i)), some (.inl (Int32.ofNat (k2 + 1))), none]) rfl ?_
      refine gz_aload_n (pc := 962) dL_law__962 rfl ?_
      refine gz_aload_n (pc := 963) dL_law__963 rfl ?_
      refine gz_iload (pc := 964) dL_law__964 rfl ?_
      refine gz_iconst (pc := 966) dL_law__966 (v := 1) (by decide) ?_
      refine gz_iadd (pc := 967) dL_law__967 ?_
      refine gz_sld (j := i + 1) (pc := 968) dL_law__968 (Int32.ofNat_add i 1).symm (by omega) ?_
      refine gz_aload_n (pc := 969) dL_law__969 rfl ?_
      refine gz_iload (pc := 970) dL_law__970 rfl ?_
      refine gz_iconst (pc := 972) dL_law__972 (v := 2) (by decide) ?_
      refine gz_iadd (pc := 973) dL_law__973 ?_
      refine gz_sld (j := i + 2) (pc := 974) dL_law__974 (Int32.ofNat_add i 2).symm (by omega) ?_
      refine gz_if_eq (pc := 975) (tgt := 982) dL_law__975 (by decide) (fun c => absurd c hb2) (fun _ => ?_)
      refine gz_iconst (pc := 978) dL_law__978 (v := 1) (by decide) ?_
      refine gz_goto (pc := 979) (tgt := 983) dL_law__979 (by decide) ?_
      refine gz_V (zy := mX12_nurse) (zc := 0) (d := d + 129) (pc := 983) (t := 0) (o := 47) (ci := 12) (r := (RX12, TX12, 21)) [.inl (gzXs g (i + 1)), .inl 1] rfl dL_law__983 lkL_171 MvX12_nurse rfl (gzOk_of (by decide)) rfl rfl rfl (Or.inr rfl) (fun h => h) (by exact Nat.le_of_ble_eq_true rfl) ?_
      refine gz_useI (d := d + 129) (c_X12_nurse (d := d + 126) hm) ?_
      refine gz_istore (pc := 986) dL_law__986 (by decide) rfl (loc2 := [some (.inr (.inr (0, 61))), some (.inr (.inr (0, 30))), some (.inr (.inr (0, 47))), some (.inr (.inr (0, 59))), some (.inl (Int32.ofNat i)), some (.inl (Int32.ofNat (k2 + 1))), some (.inl v)]) rfl ?_
      refine gz_aload_n (pc := 988) dL_law__988 rfl ?_
      refine gz_V (zy := mX12_thrown) (zc := 0) (d := d + 129) (pc := 989) (t := 0) (o := 47) (ci := 12) (r := (RX12, TX12, 21)) [] rfl dL_law__989 lkL_134 MvX12_thrown rfl (gzOk_of (by decide)) rfl rfl rfl (Or.inr rfl) (fun h => h) (by exact Nat.le_of_ble_eq_true rfl) ?_
      refine gz_useI (d := d + 129) (c_X12_thrown (d := d + 129) rfl) ?_
      dsimp only
      rw [hth]
      refine gz_iload (pc := 992) dL_law__992 rfl ?_
      refine gz_ic_eq (pc := 994) (tgt := 999) dL_law__994 (by decide) (fun _ => ?_) (fun c => absurd rfl c)
      refine gz_iload (pc := 999) dL_law__999 rfl ?_
      refine gz_if_ne (pc := 1001) (tgt := 1023) dL_law__1001 (by decide) (fun _ => ?_) (fun c => absurd c (gzHs_ne hkl))
      refine gz_goto (pc := 1023) (tgt := 2739) dL_law__1023 (by decide) ?_
      exact K _ _ _ _ _ hR (by omega) (by omega)
set_option maxRecDepth 20000 in
theorem b_13 {g : gzG} {d i z : Nat} {I : gzIT} {J : gzJT} {Q : gzO → gzS → Prop} (hi : i + 6 ≤ g.2.2.2.2.2 1 61) (hz : z + 1 ≤ 512) (h : gzR I I) (K : ∀ (l5 l6 : Option gzV) (I2 : gzIT) (J2 : gzJT) (z2 : Nat), gzR I2 I2 → z ≤ z2 → z2 ≤ z + 1 → gzX g 512 (d + 130) mLaw 2739 [some (.inr (.inr (0, 61))), some (.inr (.inr (0, 30))), some (.inr (.inr (0, 47))), some (.inr (.inr (0, 59))), some (.inl (Int32.ofNat i)), l5, l6] [] (gzN, gzR0, I2, J2) z2 Q) :
    gzX g 512 (d + 130) mLaw 1026 [some (.inr (.inr (0, 61))), some (.inr (.inr (0, 30))), some (.inr (.inr (0, 47))), some (.inr (.inr (0, 59))), some (.inl (Int32.ofNat i)), none, none] [] (gzN, gzR0, I, J) z Q := by
  obtain ⟨e, I1, hf, hE, hM⟩ := L_saw (J := J) (gzXs g (i + 1)) (gzXs g (i + 2)) (gzXs g (i + 3)) h
  refine gz_aload_n (pc := 1026) dL_law__1026 rfl ?_
  refine gz_aload_n (pc := 1027) dL_law__1027 rfl ?_
  refine gz_iload (pc := 1028) dL_law__1028 rfl ?_
  refine gz_iconst (pc := 1030) dL_law__1030 (v := 1) (by decide) ?_
  refine gz_iadd (pc := 1031) dL_law__1031 ?_
  refine gz_sld (j := i + 1) (pc := 1032) dL_law__1032 (Int32.ofNat_add i 1).symm (by omega) ?_
  refine gz_aload_n (pc := 1033) dL_law__1033 rfl ?_
  refine gz_iload (pc := 1034) dL_law__1034 rfl ?_
  refine gz_iconst (pc := 1036) dL_law__1036 (v := 2) (by decide) ?_
  refine gz_iadd (pc := 1037) dL_law__1037 ?_
  refine gz_sld (j := i + 2) (pc := 1038) dL_law__1038 (Int32.ofNat_add i 2).symm (by omega) ?_
  refine gz_aload_n (pc := 1039) dL_law__1039 rfl ?_
  refine gz_iload (pc := 1040) dL_law__1040 rfl ?_
  refine gz_iconst (pc := 1042) dL_law__1042 (v := 3) (by decide) ?_
  refine gz_iadd (pc := 1043) dL_law__1043 ?_
  refine gz_sld (j := i + 3) (pc := 1044) dL_law__1044 (Int32.ofNat_add i 3).symm (by omega) ?_
  refine gz_aload_n (pc := 1045) dL_law__1045 rfl ?_
  refine gz_SH (zy := mL_saw) (hh := hL_saw) (zc := 1) (d := d + 129) (pc := 1046) [.inr (.inr (0, 30)), .inl (gzXs g (i + 1)), .inl (gzXs g (i + 2)), .inl (gzXs g (i + 3)), .inr (.inr (0, 59))] rfl dL_law__1046 lhL_saw MhL_saw rfl (Or.inr rfl) (fun _ => by omega) (by exact Nat.le_of_ble_eq_true rfl) ?_
  refine gzCh.mono (h_L_saw (d := d + 68) hf hE) ?_
  cases e with
  | ok v0 =>
    rintro _ _ ⟨rfl, rfl⟩
    obtain ⟨v, I2, J2, hm, hs, hj, hR⟩ := hM (gz_uj J 0 59 0 (gzCvI v0))
    obtain ⟨rfl, hth⟩ := hs
    show gzX g 512 (d + 130) mLaw 1049 [some (.inr (.inr (0, 61))), some (.inr (.inr (0, 30))), some (.inr (.inr (0, 47))), some (.inr (.inr (0, 59))), some (.inl (Int32.ofNat i)), none, none] [.inl 0] (gzN, gzR0, I1, gz_uj J 0 59 0 (gzCvI v0)) (z + 1) Q
    refine gz_istore (pc := 1049) dL_law__1049 (by decide) rfl (loc2 := [some (.inr (.inr (0, 61))), some (.inr (.inr (0, 30))), some (.inr (.inr (0, 47))), some (.inr (.inr (0, 59))), some (.inl (Int32.ofNat i)), some (.inl 0), none]) rfl ?_
    refine gz_aload_n (pc := 1051) dL_law__1051 rfl ?_
    refine gz_aload_n (pc := 1052) dL_law__1052 rfl ?_
    refine gz_iload (pc := 1053) dL_law__1053 rfl ?_
    refine gz_iconst (pc := 1055) dL_law__1055 (v := 1) (by decide) ?_
    refine gz_iadd (pc := 1056) dL_law__1056 ?_
    refine gz_sld (j := i + 1) (pc := 1057) dL_law__1057 (Int32.ofNat_add i 1).symm (by omega) ?_
    refine gz_aload_n (pc := 1058) dL_law__1058 rfl ?_
    refine gz_iload (pc := 1059) dL_law__1059 rfl ?_
    refine gz_iconst (pc := 1061) dL_law__1061 (v := 2) (by decide) ?_
    refine gz_iadd (pc := 1062) dL_law__1062 ?_
    refine gz_sld (j := i + 2) (pc := 1063) dL_law__1063 (Int32.ofNat_add i 2).symm (by omega) ?_
    refine gz_aload_n (pc := 1064) dL_law__1064 rfl ?_
    refine gz_iload (pc := 1065) dL_law__1065 rfl ?_
    refine gz_iconst (pc := 1067) dL_law__1067 (v := 3) (by decide) ?_
    refine gz_iadd (pc := 1068) dL_law__1068 ?_
    refine gz_sld (j := i + 3) (pc := 1069) dL_law__1069 (Int32.ofNat_add i 3).symm (by omega) ?_
    refine gz_V (zy := mX12_saw) (zc := 0) (d := d + 129) (pc := 1070) (t := 0) (o := 47) (ci := 12) (r := (RX12, TX12, 21)) [.inl (gzXs g (i + 1)), .inl (gzXs g (i + 2)), .inl (gzXs g (i + 3))] rfl dL_law__1070 lkL_174 MvX12_saw rfl (gzOk_of (by decide)) rfl rfl rfl (Or.inr rfl) (fun h => h) (by exact Nat.le_of_ble_eq_true rfl) ?_
    refine gz_useI (d := d + 129) (c_X12_saw (d := d + 126) hm) ?_
    refine gz_istore (pc := 1073) dL_law__1073 (by decide) rfl (loc2 := [some (.inr (.inr (0, 61))), some (.inr (.inr (0, 30))), some (.inr (.inr (0, 47))), some (.inr (.inr (0, 59))), some (.inl (Int32.ofNat i)), some (.inl 0), some (.inl v0)]) rfl ?_
    refine gz_aload_n (pc := 1075) dL_law__1075 rfl ?_
    refine gz_V (zy := mX12_thrown) (zc := 0) (d := d + 129) (pc := 1076) (t := 0) (o := 47) (ci := 12) (r := (RX12, TX12, 21)) [] rfl dL_law__1076 lkL_134 MvX12_thrown rfl (gzOk_of (by decide)) rfl rfl rfl (Or.inr rfl) (fun h => h) (by exact Nat.le_of_ble_eq_true rfl) ?_
    refine gz_useI (d := d + 129) (c_X12_thrown (d := d + 129) rfl) ?_
    dsimp only
    rw [hth]
    refine gz_iload (pc := 1079) dL_law__1079 rfl ?_
    refine gz_ic_eq (pc := 1081) (tgt := 1086) dL_law__1081 (by decide) (fun _ => ?_) (fun c => absurd rfl c)
    refine gz_iload (pc := 1086) dL_law__1086 rfl ?_
    refine gz_if_ne (pc := 1088) (tgt := 1103) dL_law__1088 (by decide) (fun c => absurd rfl c) (fun _ => ?_)
    refine gz_aload_n (pc := 1091) dL_law__1091 rfl ?_
    refine gz_iconst (pc := 1092) dL_law__1092 (v := 0) (by decide) ?_
    refine gz_lald (N := 1) (pc := 1093) dL_law__1093 (gzOk_of (by decide)) rfl (gz_vpd (by decide)) ?_
    rw [show J2 0 59 (0 : Int32).toNatClampNeg = gzCvI v0 from hj.trans gz_uj_s0]
    refine gz_iload (pc := 1094) dL_law__1094 rfl ?_
    refine gz_i2l (pc := 1096) dL_law__1096 ?_
    refine gz_lcmp (pc := 1097) dL_law__1097 ?_
    first | rw [show lg_cmp (gzCvI v0) v0.toInt64 = 0 from gz_cmp_self] | rw [gz_cmp_self]
    refine gz_if_eq (pc := 1098) (tgt := 1103) dL_law__1098 (by decide) (fun _ => ?_) (fun c => absurd rfl c)
    refine gz_goto (pc := 1103) (tgt := 2739) dL_law__1103 (by decide) ?_
    exact K _ _ _ _ _ hR (by omega) (by omega)
  | error E =>
    rintro _ _ ⟨kk, hk, rfl, rfl⟩
    obtain ⟨v, I2, J2, hm, ⟨k2, hk2, hth⟩, hj, hR⟩ := hM J
    have ekk : k2 = kk := gzHs_inj (by decide) hk2 hk
    subst ekk
    have hkl : k2 < 2 ^ 20 := gzHs_lt hk (by decide)
    show gzX g 512 (d + 130) mLaw 1049 [some (.inr (.inr (0, 61))), some (.inr (.inr (0, 30))), some (.inr (.inr (0, 47))), some (.inr (.inr (0, 59))), some (.inl (Int32.ofNat i)), none, none] [.inl (Int32.ofNat (k2 + 1))] (gzN, gzR0, I1, J) (z + 1) Q
    refine gz_istore (pc := 1049) dL_law__1049 (by decide) rfl (loc2 := [some (.inr (.inr (0, 61))), some (.inr (.inr (0, 30))), some (.inr (.inr (0, 47))), some (.inr (.inr (0, 59))), some (.inl (Int32.ofNat i)), some (.inl (Int32.ofNat (k2 + 1))), none]) rfl ?_
    refine gz_aload_n (pc := 1051) dL_law__1051 rfl ?_
    refine gz_aload_n (pc := 1052) dL_law__1052 rfl ?_
    refine gz_iload (pc := 1053) dL_law__1053 rfl ?_
    refine gz_iconst (pc := 1055) dL_law__1055 (v := 1) (by decide) ?_
    refine gz_iadd (pc := 1056) dL_law__1056 ?_
    refine gz_sld (j := i + 1) (pc := 1057) dL_law__1057 (Int32.ofNat_add i 1).symm (by omega) ?_
    refine gz_aload_n (pc := 1058) dL_law__1058 rfl ?_
    refine gz_iload (pc := 1059) dL_law__1059 rfl ?_
    refine gz_iconst (pc := 1061) dL_law__1061 (v := 2) (by decide) ?_
    refine gz_iadd (pc := 1062) dL_law__1062 ?_
    refine gz_sld (j := i + 2) (pc := 1063) dL_law__1063 (Int32.ofNat_add i 2).symm (by omega) ?_
    refine gz_aload_n (pc := 1064) dL_law__1064 rfl ?_
    refine gz_iload (pc := 1065) dL_law__1065 rfl ?_
    refine gz_iconst (pc := 1067) dL_law__1067 (v := 3) (by decide) ?_
    refine gz_iadd (pc := 1068) dL_law__1068 ?_
    refine gz_sld (j := i + 3) (pc := 1069) dL_law__1069 (Int32.ofNat_add i 3).symm (by omega) ?_
    refine gz_V (zy := mX12_saw) (zc := 0) (d := d + 129) (pc := 1070) (t := 0) (o := 47) (ci := 12) (r := (RX12, TX12, 21)) [.inl (gzXs g (i + 1)), .inl (gzXs g (i + 2)), .inl (gzXs g (i + 3))] rfl dL_law__1070 lkL_174 MvX12_saw rfl (gzOk_of (by decide)) rfl rfl rfl (Or.inr rfl) (fun h => h) (by exact Nat.le_of_ble_eq_true rfl) ?_
    refine gz_useI (d := d + 129) (c_X12_saw (d := d + 126) hm) ?_
    refine gz_istore (pc := 1073) dL_law__1073 (by decide) rfl (loc2 := [some (.inr (.inr (0, 61))), some (.inr (.inr (0, 30))), some (.inr (.inr (0, 47))), some (.inr (.inr (0, 59))), some (.inl (Int32.ofNat i)), some (.inl (Int32.ofNat (k2 + 1))), some (.inl v)]) rfl ?_
    refine gz_aload_n (pc := 1075) dL_law__1075 rfl ?_
    refine gz_V (zy := mX12_thrown) (zc := 0) (d := d + 129) (pc := 1076) (t := 0) (o := 47) (ci := 12) (r := (RX12, TX12, 21)) [] rfl dL_law__1076 lkL_134 MvX12_thrown rfl (gzOk_of (by decide)) rfl rfl rfl (Or.inr rfl) (fun h => h) (by exact Nat.le_of_ble_eq_true rfl) ?_
    refine gz_useI (d := d + 129) (c_X12_thrown (d := d + 129) rfl) ?_
    dsimp only
    rw [hth]
    refine gz_iload (pc := 1079) dL_law__1079 rfl ?_
    refine gz_ic_eq (pc := 1081) (tgt := 1086) dL_law__1081 (by decide) (fun _ => ?_) (fun c => absurd rfl c)
    refine gz_iload (pc := 1086) dL_law__1086 rfl ?_
    refine gz_if_ne (pc := 1088) (tgt := 1103) dL_law__1088 (by decide) (fun _ => ?_) (fun c => absurd c (gzHs_ne hkl))
    refine gz_goto (pc := 1103) (tgt := 2739) dL_law__1103 (by decide) ?_
    exact K _ _ _ _ _ hR (by omega) (by omega)
set_option maxRecDepth 20000 in
theorem b_14 {g : gzG} {d i z : Nat} {I : gzIT} {J : gzJT} {Q : gzO → gzS → Prop} (hi : i + 6 ≤ g.2.2.2.2.2 1 61) (hz : z + 1 ≤ 512) (h : gzR I I) (K : ∀ (l5 l6 : Option gzV) (I2 : gzIT) (J2 : gzJT) (z2 : Nat), gzR I2 I2 → z ≤ z2 → z2 ≤ z + 1 → gzX g 512 (d + 130) mLaw 2739 [some (.inr (.inr (0, 61))), some (.inr (.inr (0, 30))), some (.inr (.inr (0, 47))), some (.inr (.inr (0, 59))), some (.inl (Int32.ofNat i)), l5, l6] [] (gzN, gzR0, I2, J2) z2 Q) :
    gzX g 512 (d + 130) mLaw 1106 [some (.inr (.inr (0, 61))), some (.inr (.inr (0, 30))), some (.inr (.inr (0, 47))), some (.inr (.inr (0, 59))), some (.inl (Int32.ofNat i)), none, none] [] (gzN, gzR0, I, J) z Q := by
  obtain ⟨e, I1, hf, hE, hM⟩ := L_store (J := J) (gzXs g (i + 1)) (gzXs g (i + 2)) h
  refine gz_aload_n (pc := 1106) dL_law__1106 rfl ?_
  refine gz_aload_n (pc := 1107) dL_law__1107 rfl ?_
  refine gz_iload (pc := 1108) dL_law__1108 rfl ?_
  refine gz_iconst (pc := 1110) dL_law__1110 (v := 1) (by decide) ?_
  refine gz_iadd (pc := 1111) dL_law__1111 ?_
  refine gz_sld (j := i + 1) (pc := 1112) dL_law__1112 (Int32.ofNat_add i 1).symm (by omega) ?_
  refine gz_aload_n (pc := 1113) dL_law__1113 rfl ?_
  refine gz_iload (pc := 1114) dL_law__1114 rfl ?_
  refine gz_iconst (pc := 1116) dL_law__1116 (v := 2) (by decide) ?_
  refine gz_iadd (pc := 1117) dL_law__1117 ?_
  refine gz_sld (j := i + 2) (pc := 1118) dL_law__1118 (Int32.ofNat_add i 2).symm (by omega) ?_
  refine gz_aload_n (pc := 1119) dL_law__1119 rfl ?_
  refine gz_SH (zy := mL_store) (hh := hL_store) (zc := 1) (d := d + 129) (pc := 1120) [.inr (.inr (0, 30)), .inl (gzXs g (i + 1)), .inl (gzXs g (i + 2)), .inr (.inr (0, 59))] rfl dL_law__1120 lhL_store MhL_store rfl (Or.inr rfl) (fun _ => by omega) (by exact Nat.le_of_ble_eq_true rfl) ?_
  refine gzCh.mono (h_L_store (d := d + 68) hf hE) ?_
  cases e with
  | ok v0 =>
    rintro _ _ ⟨rfl, rfl⟩
    obtain ⟨v, I2, J2, hm, hs, hj, hR⟩ := hM (gz_uj J 0 59 0 (gzCvI v0))
    obtain ⟨rfl, hth⟩ := hs
    show gzX g 512 (d + 130) mLaw 1123 [some (.inr (.inr (0, 61))), some (.inr (.inr (0, 30))), some (.inr (.inr (0, 47))), some (.inr (.inr (0, 59))), some (.inl (Int32.ofNat i)), none, none] [.inl 0] (gzN, gzR0, I1, gz_uj J 0 59 0 (gzCvI v0)) (z + 1) Q
    refine gz_istore (pc := 1123) dL_law__1123 (by decide) rfl (loc2 := [some (.inr (.inr (0, 61))), some (.inr (.inr (0, 30))), some (.inr (.inr (0, 47))), some (.inr (.inr (0, 59))), some (.inl (Int32.ofNat i)), some (.inl 0), none]) rfl ?_
    refine gz_aload_n (pc := 1125) dL_law__1125 rfl ?_
    refine gz_aload_n (pc := 1126) dL_law__1126 rfl ?_
    refine gz_iload (pc := 1127) dL_law__1127 rfl ?_
    refine gz_iconst (pc := 1129) dL_law__1129 (v := 1) (by decide) ?_
    refine gz_iadd (pc := 1130) dL_law__1130 ?_
    refine gz_sld (j := i + 1) (pc := 1131) dL_law__1131 (Int32.ofNat_add i 1).symm (by omega) ?_
    refine gz_aload_n (pc := 1132) dL_law__1132 rfl ?_
    refine gz_iload (pc := 1133) dL_law__1133 rfl ?_
    refine gz_iconst (pc := 1135) dL_law__1135 (v := 2) (by decide) ?_
    refine gz_iadd (pc := 1136) dL_law__1136 ?_
    refine gz_sld (j := i + 2) (pc := 1137) dL_law__1137 (Int32.ofNat_add i 2).symm (by omega) ?_
    refine gz_V (zy := mX12_store) (zc := 0) (d := d + 129) (pc := 1138) (t := 0) (o := 47) (ci := 12) (r := (RX12, TX12, 21)) [.inl (gzXs g (i + 1)), .inl (gzXs g (i + 2))] rfl dL_law__1138 lkL_177 MvX12_store rfl (gzOk_of (by decide)) rfl rfl rfl (Or.inr rfl) (fun h => h) (by exact Nat.le_of_ble_eq_true rfl) ?_
    refine gz_useI (d := d + 129) (c_X12_store (d := d + 126) hm) ?_
    refine gz_istore (pc := 1141) dL_law__1141 (by decide) rfl (loc2 := [some (.inr (.inr (0, 61))), some (.inr (.inr (0, 30))), some (.inr (.inr (0, 47))), some (.inr (.inr (0, 59))), some (.inl (Int32.ofNat i)), some (.inl 0), some (.inl v0)]) rfl ?_
    refine gz_aload_n (pc := 1143) dL_law__1143 rfl ?_
    refine gz_V (zy := mX12_thrown) (zc := 0) (d := d + 129) (pc := 1144) (t := 0) (o := 47) (ci := 12) (r := (RX12, TX12, 21)) [] rfl dL_law__1144 lkL_134 MvX12_thrown rfl (gzOk_of (by decide)) rfl rfl rfl (Or.inr rfl) (fun h => h) (by exact Nat.le_of_ble_eq_true rfl) ?_
    refine gz_useI (d := d + 129) (c_X12_thrown (d := d + 129) rfl) ?_
    dsimp only
    rw [hth]
    refine gz_iload (pc := 1147) dL_law__1147 rfl ?_
    refine gz_ic_eq (pc := 1149) (tgt := 1154) dL_law__1149 (by decide) (fun _ => ?_) (fun c => absurd rfl c)
    refine gz_iload (pc := 1154) dL_law__1154 rfl ?_
    refine gz_if_ne (pc := 1156) (tgt := 1171) dL_law__1156 (by decide) (fun c => absurd rfl c) (fun _ => ?_)
    refine gz_aload_n (pc := 1159) dL_law__1159 rfl ?_
    refine gz_iconst (pc := 1160) dL_law__1160 (v := 0) (by decide) ?_
    refine gz_lald (N := 1) (pc := 1161) dL_law__1161 (gzOk_of (by decide)) rfl (gz_vpd (by decide)) ?_
    rw [show J2 0 59 (0 : Int32).toNatClampNeg = gzCvI v0 from hj.trans gz_uj_s0]
    refine gz_iload (pc := 1162) dL_law__1162 rfl ?_
    refine gz_i2l (pc := 1164) dL_law__1164 ?_
    refine gz_lcmp (pc := 1165) dL_law__1165 ?_
    first | rw [show lg_cmp (gzCvI v0) v0.toInt64 = 0 from gz_cmp_self] | rw [gz_cmp_self]
    refine gz_if_eq (pc := 1166) (tgt := 1171) dL_law__1166 (by decide) (fun _ => ?_) (fun c => absurd rfl c)
    refine gz_goto (pc := 1171) (tgt := 2739) dL_law__1171 (by decide) ?_
    exact K _ _ _ _ _ hR (by omega) (by omega)
  | error E =>
    rintro _ _ ⟨kk, hk, rfl, rfl⟩
    obtain ⟨v, I2, J2, hm, ⟨k2, hk2, hth⟩, hj, hR⟩ := hM J
    have ekk : k2 = kk := gzHs_inj (by decide) hk2 hk
    subst ekk
    have hkl : k2 < 2 ^ 20 := gzHs_lt hk (by decide)
    show gzX g 512 (d + 130) mLaw 1123 [some (.inr (.inr (0, 61))), some (.inr (.inr (0, 30))), some (.inr (.inr (0, 47))), some (.inr (.inr (0, 59))), some (.inl (Int32.ofNat i)), none, none] [.inl (Int32.ofNat (k2 + 1))] (gzN, gzR0, I1, J) (z + 1) Q
    refine gz_istore (pc := 1123) dL_law__1123 (by decide) rfl (loc2 := [some (.inr (.inr (0, 61))), some (.inr (.inr (0, 30))), some (.inr (.inr (0, 47))), some (.inr (.inr (0, 59))), some (.inl (Int32.ofNat i)), some (.inl (Int32.ofNat (k2 + 1))), none]) rfl ?_
    refine gz_aload_n (pc := 1125) dL_law__1125 rfl ?_
    refine gz_aload_n (pc := 1126) dL_law__1126 rfl ?_
    refine gz_iload (pc := 1127) dL_law__1127 rfl ?_
    refine gz_iconst (pc := 1129) dL_law__1129 (v := 1) (by decide) ?_
    refine gz_iadd (pc := 1130) dL_law__1130 ?_
    refine gz_sld (j := i + 1) (pc := 1131) dL_law__1131 (Int32.ofNat_add i 1).symm (by omega) ?_
    refine gz_aload_n (pc := 1132) dL_law__1132 rfl ?_
    refine gz_iload (pc := 1133) dL_law__1133 rfl ?_
    refine gz_iconst (pc := 1135) dL_law__1135 (v := 2) (by decide) ?_
    refine gz_iadd (pc := 1136) dL_law__1136 ?_
    refine gz_sld (j := i + 2) (pc := 1137) dL_law__1137 (Int32.ofNat_add i 2).symm (by omega) ?_
    refine gz_V (zy := mX12_store) (zc := 0) (d := d + 129) (pc := 1138) (t := 0) (o := 47) (ci := 12) (r := (RX12, TX12, 21)) [.inl (gzXs g (i + 1)), .inl (gzXs g (i + 2))] rfl dL_law__1138 lkL_177 MvX12_store rfl (gzOk_of (by decide)) rfl rfl rfl (Or.inr rfl) (fun h => h) (by exact Nat.le_of_ble_eq_true rfl) ?_
    refine gz_useI (d := d + 129) (c_X12_store (d := d + 126) hm) ?_
    refine gz_istore (pc := 1141) dL_law__1141 (by decide) rfl (loc2 := [some (.inr (.inr (0, 61))), some (.inr (.inr (0, 30))), some (.inr (.inr (0, 47))), some (.inr (.inr (0, 59))), some (.inl (Int32.ofNat i)), some (.inl (Int32.ofNat (k2 + 1))), some (.inl v)]) rfl ?_
    refine gz_aload_n (pc := 1143) dL_law__1143 rfl ?_
    refine gz_V (zy := mX12_thrown) (zc := 0) (d := d + 129) (pc := 1144) (t := 0) (o := 47) (ci := 12) (r := (RX12, TX12, 21)) [] rfl dL_law__1144 lkL_134 MvX12_thrown rfl (gzOk_of (by decide)) rfl rfl rfl (Or.inr rfl) (fun h => h) (by exact Nat.le_of_ble_eq_true rfl) ?_
    refine gz_useI (d := d + 129) (c_X12_thrown (d := d + 129) rfl) ?_
    dsimp only
    rw [hth]
    refine gz_iload (pc := 1147) dL_law__1147 rfl ?_
    refine gz_ic_eq (pc := 1149) (tgt := 1154) dL_law__1149 (by decide) (fun _ => ?_) (fun c => absurd rfl c)
    refine gz_iload (pc := 1154) dL_law__1154 rfl ?_
    refine gz_if_ne (pc := 1156) (tgt := 1171) dL_law__1156 (by decide) (fun _ => ?_) (fun c => absurd c (gzHs_ne hkl))
    refine gz_goto (pc := 1171) (tgt := 2739) dL_law__1171 (by decide) ?_
    exact K _ _ _ _ _ hR (by omega) (by omega)
set_option maxRecDepth 20000 in
theorem b_15 {g : gzG} {d i z : Nat} {I : gzIT} {J : gzJT} {Q : gzO → gzS → Prop} (hi : i + 6 ≤ g.2.2.2.2.2 1 61) (hz : z + 1 ≤ 512) (h : gzR I I) (K : ∀ (l5 l6 : Option gzV) (I2 : gzIT) (J2 : gzJT) (z2 : Nat), gzR I2 I2 → z ≤ z2 → z2 ≤ z + 1 → gzX g 512 (d + 130) mLaw 2739 [some (.inr (.inr (0, 61))), some (.inr (.inr (0, 30))), some (.inr (.inr (0, 47))), some (.inr (.inr (0, 59))), some (.inl (Int32.ofNat i)), l5, l6] [] (gzN, gzR0, I2, J2) z2 Q) :
    gzX g 512 (d + 130) mLaw 1174 [some (.inr (.inr (0, 61))), some (.inr (.inr (0, 30))), some (.inr (.inr (0, 47))), some (.inr (.inr (0, 59))), some (.inl (Int32.ofNat i)), none, none] [] (gzN, gzR0, I, J) z Q := by
  obtain ⟨e, I1, hf, hE, hM⟩ := L_deliver (J := J) (gzXs g (i + 1)) (gzXs g (i + 2)) h
  refine gz_aload_n (pc := 1174) dL_law__1174 rfl ?_
  refine gz_aload_n (pc := 1175) dL_law__1175 rfl ?_
  refine gz_iload (pc := 1176) dL_law__1176 rfl ?_
  refine gz_iconst (pc := 1178) dL_law__1178 (v := 1) (by decide) ?_
  refine gz_iadd (pc := 1179) dL_law__1179 ?_
  refine gz_sld (j := i + 1) (pc := 1180) dL_law__1180 (Int32.ofNat_add i 1).symm (by omega) ?_
  refine gz_aload_n (pc := 1181) dL_law__1181 rfl ?_
  refine gz_iload (pc := 1182) dL_law__1182 rfl ?_
  refine gz_iconst (pc := 1184) dL_law__1184 (v := 2) (by decide) ?_
  refine gz_iadd (pc := 1185) dL_law__1185 ?_
  refine gz_sld (j := i + 2) (pc := 1186) dL_law__1186 (Int32.ofNat_add i 2).symm (by omega) ?_
  refine gz_aload_n (pc := 1187) dL_law__1187 rfl ?_
  refine gz_SH (zy := mL_deliver) (hh := hL_deliver) (zc := 1) (d := d + 129) (pc := 1188) [.inr (.inr (0, 30)), .inl (gzXs g (i + 1)), .inl (gzXs g (i + 2)), .inr (.inr (0, 59))] rfl dL_law__1188 lhL_deliver MhL_deliver rfl (Or.inr rfl) (fun _ => by omega) (by exact Nat.le_of_ble_eq_true rfl) ?_
  refine gzCh.mono (h_L_deliver (d := d + 68) hf hE) ?_
  cases e with
  | ok v0 =>
    rintro _ _ ⟨rfl, rfl⟩
    obtain ⟨v, I2, J2, hm, hs, hj, hR⟩ := hM (gz_uj J 0 59 0 (gzCvI v0))
    obtain ⟨rfl, hth⟩ := hs
    show gzX g 512 (d + 130) mLaw 1191 [some (.inr (.inr (0, 61))), some (.inr (.inr (0, 30))), some (.inr (.inr (0, 47))), some (.inr (.inr (0, 59))), some (.inl (Int32.ofNat i)), none, none] [.inl 0] (gzN, gzR0, I1, gz_uj J 0 59 0 (gzCvI v0)) (z + 1) Q
    refine gz_istore (pc := 1191) dL_law__1191 (by decide) rfl (loc2 := [some (.inr (.inr (0, 61))), some (.inr (.inr (0, 30))), some (.inr (.inr (0, 47))), some (.inr (.inr (0, 59))), some (.inl (Int32.ofNat i)), some (.inl 0), none]) rfl ?_
    refine gz_aload_n (pc := 1193) dL_law__1193 rfl ?_
    refine gz_aload_n (pc := 1194) dL_law__1194 rfl ?_
    refine gz_iload (pc := 1195) dL_law__1195 rfl ?_
    refine gz_iconst (pc := 1197) dL_law__1197 (v := 1) (by decide) ?_
    refine gz_iadd (pc := 1198) dL_law__1198 ?_
    refine gz_sld (j := i + 1) (pc := 1199) dL_law__1199 (Int32.ofNat_add i 1).symm (by omega) ?_
    refine gz_aload_n (pc := 1200) dL_law__1200 rfl ?_
    refine gz_iload (pc := 1201) dL_law__1201 rfl ?_
    refine gz_iconst (pc := 1203) dL_law__1203 (v := 2) (by decide) ?_
    refine gz_iadd (pc := 1204) dL_law__1204 ?_
    refine gz_sld (j := i + 2) (pc := 1205) dL_law__1205 (Int32.ofNat_add i 2).symm (by omega) ?_
    refine gz_V (zy := mX12_deliver) (zc := 0) (d := d + 129) (pc := 1206) (t := 0) (o := 47) (ci := 12) (r := (RX12, TX12, 21)) [.inl (gzXs g (i + 1)), .inl (gzXs g (i + 2))] rfl dL_law__1206 lkL_180 MvX12_deliver rfl (gzOk_of (by decide)) rfl rfl rfl (Or.inr rfl) (fun h => h) (by exact Nat.le_of_ble_eq_true rfl) ?_
    refine gz_useI (d := d + 129) (c_X12_deliver (d := d + 127) hm) ?_
    refine gz_istore (pc := 1209) dL_law__1209 (by decide) rfl (loc2 := [some (.inr (.inr (0, 61))), some (.inr (.inr (0, 30))), some (.inr (.inr (0, 47))), some (.inr (.inr (0, 59))), some (.inl (Int32.ofNat i)), some (.inl 0), some (.inl v0)]) rfl ?_
    refine gz_aload_n (pc := 1211) dL_law__1211 rfl ?_
    refine gz_V (zy := mX12_thrown) (zc := 0) (d := d + 129) (pc := 1212) (t := 0) (o := 47) (ci := 12) (r := (RX12, TX12, 21)) [] rfl dL_law__1212 lkL_134 MvX12_thrown rfl (gzOk_of (by decide)) rfl rfl rfl (Or.inr rfl) (fun h => h) (by exact Nat.le_of_ble_eq_true rfl) ?_
    refine gz_useI (d := d + 129) (c_X12_thrown (d := d + 129) rfl) ?_
    dsimp only
    rw [hth]
    refine gz_iload (pc := 1215) dL_law__1215 rfl ?_
    refine gz_ic_eq (pc := 1217) (tgt := 1222) dL_law__1217 (by decide) (fun _ => ?_) (fun c => absurd rfl c)
    refine gz_iload (pc := 1222) dL_law__1222 rfl ?_
    refine gz_if_ne (pc := 1224) (tgt := 1239) dL_law__1224 (by decide) (fun c => absurd rfl c) (fun _ => ?_)
    refine gz_aload_n (pc := 1227) dL_law__1227 rfl ?_
    refine gz_iconst (pc := 1228) dL_law__1228 (v := 0) (by decide) ?_
    refine gz_lald (N := 1) (pc := 1229) dL_law__1229 (gzOk_of (by decide)) rfl (gz_vpd (by decide)) ?_
    rw [show J2 0 59 (0 : Int32).toNatClampNeg = gzCvI v0 from hj.trans gz_uj_s0]
    refine gz_iload (pc := 1230) dL_law__1230 rfl ?_
    refine gz_i2l (pc := 1232) dL_law__1232 ?_
    refine gz_lcmp (pc := 1233) dL_law__1233 ?_
    first | rw [show lg_cmp (gzCvI v0) v0.toInt64 = 0 from gz_cmp_self] | rw [gz_cmp_self]
    refine gz_if_eq (pc := 1234) (tgt := 1239) dL_law__1234 (by decide) (fun _ => ?_) (fun c => absurd rfl c)
    refine gz_goto (pc := 1239) (tgt := 2739) dL_law__1239 (by decide) ?_
    exact K _ _ _ _ _ hR (by omega) (by omega)
  | error E =>
    rintro _ _ ⟨kk, hk, rfl, rfl⟩
    obtain ⟨v, I2, J2, hm, ⟨k2, hk2, hth⟩, hj, hR⟩ := hM J
    have ekk : k2 = kk := gzHs_inj (by decide) hk2 hk
    subst ekk
    have hkl : k2 < 2 ^ 20 := gzHs_lt hk (by decide)
    show gzX g 512 (d + 130) mLaw 1191 [some (.inr (.inr (0, 61))), some (.inr (.inr (0, 30))), some (.inr (.inr (0, 47))), some (.inr (.inr (0, 59))), some (.inl (Int32.ofNat i)), none, none] [.inl (Int32.ofNat (k2 + 1))] (gzN, gzR0, I1, J) (z + 1) Q
    refine gz_istore (pc := 1191) dL_law__1191 (by decide) rfl (loc2 := [some (.inr (.inr (0, 61))), some (.inr (.inr (0, 30))), some (.inr (.inr (0, 47))), some (.inr (.inr (0, 59))), some (.inl (Int32.ofNat i)), some (.inl (Int32.ofNat (k2 + 1))), none]) rfl ?_
    refine gz_aload_n (pc := 1193) dL_law__1193 rfl ?_
    refine gz_aload_n (pc := 1194) dL_law__1194 rfl ?_
    refine gz_iload (pc := 1195) dL_law__1195 rfl ?_
    refine gz_iconst (pc := 1197) dL_law__1197 (v := 1) (by decide) ?_
    refine gz_iadd (pc := 1198) dL_law__1198 ?_
    refine gz_sld (j := i + 1) (pc := 1199) dL_law__1199 (Int32.ofNat_add i 1).symm (by omega) ?_
    refine gz_aload_n (pc := 1200) dL_law__1200 rfl ?_
    refine gz_iload (pc := 1201) dL_law__1201 rfl ?_
    refine gz_iconst (pc := 1203) dL_law__1203 (v := 2) (by decide) ?_
    refine gz_iadd (pc := 1204) dL_law__1204 ?_
    refine gz_sld (j := i + 2) (pc := 1205) dL_law__1205 (Int32.ofNat_add i 2).symm (by omega) ?_
    refine gz_V (zy := mX12_deliver) (zc := 0) (d := d + 129) (pc := 1206) (t := 0) (o := 47) (ci := 12) (r := (RX12, TX12, 21)) [.inl (gzXs g (i + 1)), .inl (gzXs g (i + 2))] rfl dL_law__1206 lkL_180 MvX12_deliver rfl (gzOk_of (by decide)) rfl rfl rfl (Or.inr rfl) (fun h => h) (by exact Nat.le_of_ble_eq_true rfl) ?_
    refine gz_useI (d := d + 129) (c_X12_deliver (d := d + 127) hm) ?_
    refine gz_istore (pc := 1209) dL_law__1209 (by decide) rfl (loc2 := [some (.inr (.inr (0, 61))), some (.inr (.inr (0, 30))), some (.inr (.inr (0, 47))), some (.inr (.inr (0, 59))), some (.inl (Int32.ofNat i)), some (.inl (Int32.ofNat (k2 + 1))), some (.inl v)]) rfl ?_
    refine gz_aload_n (pc := 1211) dL_law__1211 rfl ?_
    refine gz_V (zy := mX12_thrown) (zc := 0) (d := d + 129) (pc := 1212) (t := 0) (o := 47) (ci := 12) (r := (RX12, TX12, 21)) [] rfl dL_law__1212 lkL_134 MvX12_thrown rfl (gzOk_of (by decide)) rfl rfl rfl (Or.inr rfl) (fun h => h) (by exact Nat.le_of_ble_eq_true rfl) ?_
    refine gz_useI (d := d + 129) (c_X12_thrown (d := d + 129) rfl) ?_
    dsimp only
    rw [hth]
    refine gz_iload (pc := 1215) dL_law__1215 rfl ?_
    refine gz_ic_eq (pc := 1217) (tgt := 1222) dL_law__1217 (by decide) (fun _ => ?_) (fun c => absurd rfl c)
    refine gz_iload (pc := 1222) dL_law__1222 rfl ?_
    refine gz_if_ne (pc := 1224) (tgt := 1239) dL_law__1224 (by decide) (fun _ => ?_) (fun c => absurd c (gzHs_ne hkl))
    refine gz_goto (pc := 1239) (tgt := 2739) dL_law__1239 (by decide) ?_
    exact K _ _ _ _ _ hR (by omega) (by omega)
set_option maxRecDepth 20000 in
theorem b_16 {g : gzG} {d i z : Nat} {I : gzIT} {J : gzJT} {Q : gzO → gzS → Prop} (hi : i + 6 ≤ g.2.2.2.2.2 1 61) (hz : z + 1 ≤ 512) (h : gzR I I) (K : ∀ (l5 l6 : Option gzV) (I2 : gzIT) (J2 : gzJT) (z2 : Nat), gzR I2 I2 → z ≤ z2 → z2 ≤ z + 1 → gzX g 512 (d + 130) mLaw 2739 [some (.inr (.inr (0, 61))), some (.inr (.inr (0, 30))), some (.inr (.inr (0, 47))), some (.inr (.inr (0, 59))), some (.inl (Int32.ofNat i)), l5, l6] [] (gzN, gzR0, I2, J2) z2 Q) :
    gzX g 512 (d + 130) mLaw 1242 [some (.inr (.inr (0, 61))), some (.inr (.inr (0, 30))), some (.inr (.inr (0, 47))), some (.inr (.inr (0, 59))), some (.inl (Int32.ofNat i)), none, none] [] (gzN, gzR0, I, J) z Q := by
  by_cases hb1 : gzXs g (i + 1) = 0
  · skip
    obtain ⟨v, I1, I2, J2, hf, hm, hR⟩ := L_prop (J := J) 0 (Or.inl rfl) h
    refine gz_aload_n (pc := 1242) dL_law__1242 rfl ?_
    refine gz_aload_n (pc := 1243) dL_law__1243 rfl ?_
    refine gz_iload (pc := 1244) dL_law__1244 rfl ?_
    refine gz_iconst (pc := 1246) dL_law__1246 (v := 1) (by decide) ?_
    refine gz_iadd (pc := 1247) dL_law__1247 ?_
    refine gz_sld (j := i + 1) (pc := 1248) dL_law__1248 (Int32.ofNat_add i 1).symm (by omega) ?_
    refine gz_if_eq (pc := 1249) (tgt := 1256) dL_law__1249 (by decide) (fun _ => ?_) (fun c => absurd hb1 c)
    refine gz_iconst (pc := 1256) dL_law__1256 (v := 0) (by decide) ?_
    refine gz_V (zy := mX11_prop) (zc := 0) (d := d + 129) (pc := 1257) (t := 0) (o := 30) (ci := 11) (r := (RX11, TX11, 13)) [.inl 0] rfl dL_law__1257 lkL_181 MvX11_prop rfl (gzOk_of (by decide)) rfl rfl rfl (Or.inr rfl) (fun h => h) (by exact Nat.le_of_ble_eq_true rfl) ?_
    refine gz_useI (d := d + 129) (c_X11_prop (d := d + 125) hf) ?_
    refine gz_aload_n (pc := 1260) dL_law__1260 rfl ?_
    refine gz_aload_n (pc := 1261) dL_law__1261 rfl ?_
    refine gz_iload (pc := 1262) dL_law__1262 rfl ?_
    refine gz_iconst (pc := 1264) dL_law__1264 (v := 1) (by decide) ?_
    refine gz_iadd (pc := 1265) dL_law__1265 ?_
    refine gz_sld (j := i + 1) (pc := 1266) dL_law__1266 (Int32.ofNat_add i 1).symm (by omega) ?_
    refine gz_if_eq (pc := 1267) (tgt := 1274) dL_law__1267 (by decide) (fun _ => ?_) (fun c => absurd hb1 c)
    refine gz_iconst (pc := 1274) dL_law__1274 (v := 0) (by decide) ?_
    refine gz_V (zy := mX12_prop) (zc := 0) (d := d + 129) (pc := 1275) (t := 0) (o := 47) (ci := 12) (r := (RX12, TX12, 21)) [.inl 0] rfl dL_law__1275 lkL_185 MvX12_prop rfl (gzOk_of (by decide)) rfl rfl rfl (Or.inr rfl) (fun h => h) (by exact Nat.le_of_ble_eq_true rfl) ?_
    refine gz_useI (d := d + 129) (c_X12_prop (d := d + 128) hm) ?_
    refine gz_ic_eq (pc := 1278) (tgt := 2739) dL_law__1278 (by decide) (fun _ => ?_) (fun c => absurd rfl c)
    exact K _ _ _ _ _ hR (Nat.le_refl _) (by omega)
  · skip
    obtain ⟨v, I1, I2, J2, hf, hm, hR⟩ := L_prop (J := J) 1 (Or.inr rfl) h
    refine gz_aload_n (pc := 1242) dL_law__1242 rfl ?_
    refine gz_aload_n (pc := 1243) dL_law__1243 rfl ?_
    refine gz_iload (pc := 1244) dL_law__1244 rfl ?_
    refine gz_iconst (pc := 1246) dL_law__1246 (v := 1) (by decide) ?_
    refine gz_iadd (pc := 1247) dL_law__1247 ?_
    refine gz_sld (j := i + 1) (pc := 1248) dL_law__1248 (Int32.ofNat_add i 1).symm (by omega) ?_
    refine gz_if_eq (pc := 1249) (tgt := 1256) dL_law__1249 (by decide) (fun c => absurd c hb1) (fun _ => ?_)
    refine gz_iconst (pc := 1252) dL_law__1252 (v := 1) (by decide) ?_
    refine gz_goto (pc := 1253) (tgt := 1257) dL_law__1253 (by decide) ?_
    refine gz_V (zy := mX11_prop) (zc := 0) (d := d + 129) (pc := 1257) (t := 0) (o := 30) (ci := 11) (r := (RX11, TX11, 13)) [.inl 1] rfl dL_law__1257 lkL_181 MvX11_prop rfl (gzOk_of (by decide)) rfl rfl rfl (Or.inr rfl) (fun h => h) (by exact Nat.le_of_ble_eq_true rfl) ?_
    refine gz_useI (d := d + 129) (c_X11_prop (d := d + 125) hf) ?_
    refine gz_aload_n (pc := 1260) dL_law__1260 rfl ?_
    refine gz_aload_n (pc := 1261) dL_law__1261 rfl ?_
    refine gz_iload (pc := 1262) dL_law__1262 rfl ?_
    refine gz_iconst (pc := 1264) dL_law__1264 (v := 1) (by decide) ?_
    refine gz_iadd (pc := 1265) dL_law__1265 ?_
    refine gz_sld (j := i + 1) (pc := 1266) dL_law__1266 (Int32.ofNat_add i 1).symm (by omega) ?_
    refine gz_if_eq (pc := 1267) (tgt := 1274) dL_law__1267 (by decide) (fun c => absurd c hb1) (fun _ => ?_)
    refine gz_iconst (pc := 1270) dL_law__1270 (v := 1) (by decide) ?_
    refine gz_goto (pc := 1271) (tgt := 1275) dL_law__1271 (by decide) ?_
    refine gz_V (zy := mX12_prop) (zc := 0) (d := d + 129) (pc := 1275) (t := 0) (o := 47) (ci := 12) (r := (RX12, TX12, 21)) [.inl 1] rfl dL_law__1275 lkL_185 MvX12_prop rfl (gzOk_of (by decide)) rfl rfl rfl (Or.inr rfl) (fun h => h) (by exact Nat.le_of_ble_eq_true rfl) ?_
    refine gz_useI (d := d + 129) (c_X12_prop (d := d + 128) hm) ?_
    refine gz_ic_eq (pc := 1278) (tgt := 2739) dL_law__1278 (by decide) (fun _ => ?_) (fun c => absurd rfl c)
    exact K _ _ _ _ _ hR (Nat.le_refl _) (by omega)
set_option maxRecDepth 20000 in
theorem b_17 {g : gzG} {d i z : Nat} {I : gzIT} {J : gzJT} {Q : gzO → gzS → Prop} (hi : i + 6 ≤ g.2.2.2.2.2 1 61) (hz : z + 1 ≤ 512) (h : gzR I I) (K : ∀ (l5 l6 : Option gzV) (I2 : gzIT) (J2 : gzJT) (z2 : Nat), gzR I2 I2 → z ≤ z2 → z2 ≤ z + 1 → gzX g 512 (d + 130) mLaw 2739 [some (.inr (.inr (0, 61))), some (.inr (.inr (0, 30))), some (.inr (.inr (0, 47))), some (.inr (.inr (0, 59))), some (.inl (Int32.ofNat i)), l5, l6] [] (gzN, gzR0, I2, J2) z2 Q) :
    gzX g 512 (d + 130) mLaw 1283 [some (.inr (.inr (0, 61))), some (.inr (.inr (0, 30))), some (.inr (.inr (0, 47))), some (.inr (.inr (0, 59))), some (.inl (Int32.ofNat i)), none, none] [] (gzN, gzR0, I, J) z Q := by
  obtain ⟨v, I2, J2, hf, hm, hR⟩ := L_cold (J := J) h
  refine gz_aload_n (pc := 1283) dL_law__1283 rfl ?_
  refine gz_V (zy := mX11_cold) (zc := 0) (d := d + 129) (pc := 1284) (t := 0) (o := 30) (ci := 11) (r := (RX11, TX11, 13)) [] rfl dL_law__1284 lkL_186 MvX11_cold rfl (gzOk_of (by decide)) rfl rfl rfl (Or.inr rfl) (fun h => h) (by exact Nat.le_of_ble_eq_true rfl) ?_
  refine gz_useI (d := d + 129) (c_X11_cold (d := d + 128) hf) ?_
  refine gz_aload_n (pc := 1287) dL_law__1287 rfl ?_
  refine gz_V (zy := mX12_cold) (zc := 0) (d := d + 129) (pc := 1288) (t := 0) (o := 47) (ci := 12) (r := (RX12, TX12, 21)) [] rfl dL_law__1288 lkL_189 MvX12_cold rfl (gzOk_of (by decide)) rfl rfl rfl (Or.inr rfl) (fun h => h) (by exact Nat.le_of_ble_eq_true rfl) ?_
  refine gz_useI (d := d + 129) (c_X12_cold (d := d + 125) hm) ?_
  refine gz_ic_eq (pc := 1291) (tgt := 2739) dL_law__1291 (by decide) (fun _ => ?_) (fun c => absurd rfl c)
  exact K _ _ _ _ _ hR (Nat.le_refl _) (by omega)
set_option maxRecDepth 20000 in
theorem b_18 {g : gzG} {d i z : Nat} {I : gzIT} {J : gzJT} {Q : gzO → gzS → Prop} (hi : i + 6 ≤ g.2.2.2.2.2 1 61) (hz : z + 1 ≤ 512) (h : gzR I I) (K : ∀ (l5 l6 : Option gzV) (I2 : gzIT) (J2 : gzJT) (z2 : Nat), gzR I2 I2 → z ≤ z2 → z2 ≤ z + 1 → gzX g 512 (d + 130) mLaw 2739 [some (.inr (.inr (0, 61))), some (.inr (.inr (0, 30))), some (.inr (.inr (0, 47))), some (.inr (.inr (0, 59))), some (.inl (Int32.ofNat i)), l5, l6] [] (gzN, gzR0, I2, J2) z2 Q) :
    gzX g 512 (d + 130) mLaw 1296 [some (.inr (.inr (0, 61))), some (.inr (.inr (0, 30))), some (.inr (.inr (0, 47))), some (.inr (.inr (0, 59))), some (.inl (Int32.ofNat i)), none, none] [] (gzN, gzR0, I, J) z Q := by
  obtain ⟨v, I1, I2, J2, hf, hm, hR⟩ := L_stock (J := J) h
  refine gz_aload_n (pc := 1296) dL_law__1296 rfl ?_
  refine gz_V (zy := mX11_stock) (zc := 0) (d := d + 129) (pc := 1297) (t := 0) (o := 30) (ci := 11) (r := (RX11, TX11, 13)) [] rfl dL_law__1297 lkL_190 MvX11_stock rfl (gzOk_of (by decide)) rfl rfl rfl (Or.inr rfl) (fun h => h) (by exact Nat.le_of_ble_eq_true rfl) ?_
  refine gz_useI (d := d + 129) (c_X11_stock (d := d + 126) hf) ?_
  refine gz_aload_n (pc := 1300) dL_law__1300 rfl ?_
  refine gz_V (zy := mX12_stock) (zc := 0) (d := d + 129) (pc := 1301) (t := 0) (o := 47) (ci := 12) (r := (RX12, TX12, 21)) [] rfl dL_law__1301 lkL_193 MvX12_stock rfl (gzOk_of (by decide)) rfl rfl rfl (Or.inr rfl) (fun h => h) (by exact Nat.le_of_ble_eq_true rfl) ?_
  refine gz_useI (d := d + 129) (c_X12_stock (d := d + 120) hm) ?_
  refine gz_ic_eq (pc := 1304) (tgt := 2739) dL_law__1304 (by decide) (fun _ => ?_) (fun c => absurd rfl c)
  exact K _ _ _ _ _ hR (Nat.le_refl _) (by omega)
set_option maxRecDepth 20000 in
theorem b_19 {g : gzG} {d i z : Nat} {I : gzIT} {J : gzJT} {Q : gzO → gzS → Prop} (hi : i + 6 ≤ g.2.2.2.2.2 1 61) (hz : z + 1 ≤ 512) (h : gzR I I) (K : ∀ (l5 l6 : Option gzV) (I2 : gzIT) (J2 : gzJT) (z2 : Nat), gzR I2 I2 → z ≤ z2 → z2 ≤ z + 1 → gzX g 512 (d + 130) mLaw 2739 [some (.inr (.inr (0, 61))), some (.inr (.inr (0, 30))), some (.inr (.inr (0, 47))), some (.inr (.inr (0, 59))), some (.inl (Int32.ofNat i)), l5, l6] [] (gzN, gzR0, I2, J2) z2 Q) :
    gzX g 512 (d + 130) mLaw 1309 [some (.inr (.inr (0, 61))), some (.inr (.inr (0, 30))), some (.inr (.inr (0, 47))), some (.inr (.inr (0, 59))), some (.inl (Int32.ofNat i)), none, none] [] (gzN, gzR0, I, J) z Q := by
  obtain ⟨v, I2, J2, hf, hm, hR⟩ := L_scarce (J := J) h
  refine gz_aload_n (pc := 1309) dL_law__1309 rfl ?_
  refine gz_V (zy := mX11_scarce) (zc := 0) (d := d + 129) (pc := 1310) (t := 0) (o := 30) (ci := 11) (r := (RX11, TX11, 13)) [] rfl dL_law__1310 lkL_194 MvX11_scarce rfl (gzOk_of (by decide)) rfl rfl rfl (Or.inr rfl) (fun h => h) (by exact Nat.le_of_ble_eq_true rfl) ?_
  refine gz_useI (d := d + 129) (c_X11_scarce (d := d + 127) hf) ?_
  refine gz_aload_n (pc := 1313) dL_law__1313 rfl ?_
  refine gz_V (zy := mX12_scarce) (zc := 0) (d := d + 129) (pc := 1314) (t := 0) (o := 47) (ci := 12) (r := (RX12, TX12, 21)) [] rfl dL_law__1314 lkL_197 MvX12_scarce rfl (gzOk_of (by decide)) rfl rfl rfl (Or.inr rfl) (fun h => h) (by exact Nat.le_of_ble_eq_true rfl) ?_
  refine gz_useI (d := d + 129) (c_X12_scarce (d := d + 119) hm) ?_
  refine gz_ic_eq (pc := 1317) (tgt := 2739) dL_law__1317 (by decide) (fun _ => ?_) (fun c => absurd rfl c)
  exact K _ _ _ _ _ hR (Nat.le_refl _) (by omega)
set_option maxRecDepth 20000 in
theorem b_20 {g : gzG} {d i z : Nat} {I : gzIT} {J : gzJT} {Q : gzO → gzS → Prop} (hi : i + 6 ≤ g.2.2.2.2.2 1 61) (hz : z + 1 ≤ 512) (h : gzR I I) (K : ∀ (l5 l6 : Option gzV) (I2 : gzIT) (J2 : gzJT) (z2 : Nat), gzR I2 I2 → z ≤ z2 → z2 ≤ z + 1 → gzX g 512 (d + 130) mLaw 2739 [some (.inr (.inr (0, 61))), some (.inr (.inr (0, 30))), some (.inr (.inr (0, 47))), some (.inr (.inr (0, 59))), some (.inl (Int32.ofNat i)), l5, l6] [] (gzN, gzR0, I2, J2) z2 Q) :
    gzX g 512 (d + 130) mLaw 1322 [some (.inr (.inr (0, 61))), some (.inr (.inr (0, 30))), some (.inr (.inr (0, 47))), some (.inr (.inr (0, 59))), some (.inl (Int32.ofNat i)), none, none] [] (gzN, gzR0, I, J) z Q := by
  obtain ⟨v, I1, I2, J2, hf, hm, hR⟩ := L_hot (J := J) h
  refine gz_aload_n (pc := 1322) dL_law__1322 rfl ?_
  refine gz_V (zy := mX11_hot) (zc := 0) (d := d + 129) (pc := 1323) (t := 0) (o := 30) (ci := 11) (r := (RX11, TX11, 13)) [] rfl dL_law__1323 lkL_198 MvX11_hot rfl (gzOk_of (by decide)) rfl rfl rfl (Or.inr rfl) (fun h => h) (by exact Nat.le_of_ble_eq_true rfl) ?_
  refine gz_useI (d := d + 129) (c_X11_hot (d := d + 124) hf) ?_
  refine gz_aload_n (pc := 1326) dL_law__1326 rfl ?_
  refine gz_V (zy := mX12_hot) (zc := 0) (d := d + 129) (pc := 1327) (t := 0) (o := 47) (ci := 12) (r := (RX12, TX12, 21)) [] rfl dL_law__1327 lkL_201 MvX12_hot rfl (gzOk_of (by decide)) rfl rfl rfl (Or.inr rfl) (fun h => h) (by exact Nat.le_of_ble_eq_true rfl) ?_
  refine gz_useI (d := d + 129) (c_X12_hot (d := d + 120) hm) ?_
  refine gz_ic_eq (pc := 1330) (tgt := 2739) dL_law__1330 (by decide) (fun _ => ?_) (fun c => absurd rfl c)
  exact K _ _ _ _ _ hR (Nat.le_refl _) (by omega)
set_option maxRecDepth 20000 in
theorem b_21 {g : gzG} {d i z : Nat} {I : gzIT} {J : gzJT} {Q : gzO → gzS → Prop} (hi : i + 6 ≤ g.2.2.2.2.2 1 61) (hz : z + 1 ≤ 512) (h : gzR I I) (K : ∀ (l5 l6 : Option gzV) (I2 : gzIT) (J2 : gzJT) (z2 : Nat), gzR I2 I2 → z ≤ z2 → z2 ≤ z + 1 → gzX g 512 (d + 130) mLaw 2739 [some (.inr (.inr (0, 61))), some (.inr (.inr (0, 30))), some (.inr (.inr (0, 47))), some (.inr (.inr (0, 59))), some (.inl (Int32.ofNat i)), l5, l6] [] (gzN, gzR0, I2, J2) z2 Q) :
    gzX g 512 (d + 130) mLaw 1335 [some (.inr (.inr (0, 61))), some (.inr (.inr (0, 30))), some (.inr (.inr (0, 47))), some (.inr (.inr (0, 59))), some (.inl (Int32.ofNat i)), none, none] [] (gzN, gzR0, I, J) z Q := by
  obtain ⟨v, I2, J2, hf, hm, hR⟩ := L_keeps (J := J) h
  refine gz_aload_n (pc := 1335) dL_law__1335 rfl ?_
  refine gz_V (zy := mX11_keeps) (zc := 0) (d := d + 129) (pc := 1336) (t := 0) (o := 30) (ci := 11) (r := (RX11, TX11, 13)) [] rfl dL_law__1336 lkL_202 MvX11_keeps rfl (gzOk_of (by decide)) rfl rfl rfl (Or.inr rfl) (fun h => h) (by exact Nat.le_of_ble_eq_true rfl) ?_
  refine gz_useI (d := d + 129) (c_X11_keeps (d := d + 126) hf) ?_
  refine gz_aload_n (pc := 1339) dL_law__1339 rfl ?_
  refine gz_V (zy := mX12_keeps) (zc := 0) (d := d + 129) (pc := 1340) (t := 0) (o := 47) (ci := 12) (r := (RX12, TX12, 21)) [] rfl dL_law__1340 lkL_205 MvX12_keeps rfl (gzOk_of (by decide)) rfl rfl rfl (Or.inr rfl) (fun h => h) (by exact Nat.le_of_ble_eq_true rfl) ?_
  refine gz_useI (d := d + 129) (c_X12_keeps (d := d + 124) hm) ?_
  refine gz_ic_eq (pc := 1343) (tgt := 2739) dL_law__1343 (by decide) (fun _ => ?_) (fun c => absurd rfl c)
  exact K _ _ _ _ _ hR (Nat.le_refl _) (by omega)
set_option maxRecDepth 20000 in
theorem b_22 {g : gzG} {d i z : Nat} {I : gzIT} {J : gzJT} {Q : gzO → gzS → Prop} (hi : i + 6 ≤ g.2.2.2.2.2 1 61) (hz : z + 1 ≤ 512) (h : gzR I I) (K : ∀ (l5 l6 : Option gzV) (I2 : gzIT) (J2 : gzJT) (z2 : Nat), gzR I2 I2 → z ≤ z2 → z2 ≤ z + 1 → gzX g 512 (d + 130) mLaw 2739 [some (.inr (.inr (0, 61))), some (.inr (.inr (0, 30))), some (.inr (.inr (0, 47))), some (.inr (.inr (0, 59))), some (.inl (Int32.ofNat i)), l5, l6] [] (gzN, gzR0, I2, J2) z2 Q) :
    gzX g 512 (d + 130) mLaw 1348 [some (.inr (.inr (0, 61))), some (.inr (.inr (0, 30))), some (.inr (.inr (0, 47))), some (.inr (.inr (0, 59))), some (.inl (Int32.ofNat i)), none, none] [] (gzN, gzR0, I, J) z Q := by
  obtain ⟨v, I2, J2, hf, hm, hR⟩ := L_tight (J := J) h
  refine gz_aload_n (pc := 1348) dL_law__1348 rfl ?_
  refine gz_V (zy := mX11_tight) (zc := 0) (d := d + 129) (pc := 1349) (t := 0) (o := 30) (ci := 11) (r := (RX11, TX11, 13)) [] rfl dL_law__1349 lkL_206 MvX11_tight rfl (gzOk_of (by decide)) rfl rfl rfl (Or.inr rfl) (fun h => h) (by exact Nat.le_of_ble_eq_true rfl) ?_
  refine gz_useI (d := d + 129) (c_X11_tight (d := d + 126) hf) ?_
  refine gz_aload_n (pc := 1352) dL_law__1352 rfl ?_
  refine gz_V (zy := mX12_tight) (zc := 0) (d := d + 129) (pc := 1353) (t := 0) (o := 47) (ci := 12) (r := (RX12, TX12, 21)) [] rfl dL_law__1353 lkL_209 MvX12_tight rfl (gzOk_of (by decide)) rfl rfl rfl (Or.inr rfl) (fun h => h) (by exact Nat.le_of_ble_eq_true rfl) ?_
  refine gz_useI (d := d + 129) (c_X12_tight (d := d + 124) hm) ?_
  refine gz_ic_eq (pc := 1356) (tgt := 2739) dL_law__1356 (by decide) (fun _ => ?_) (fun c => absurd rfl c)
  exact K _ _ _ _ _ hR (Nat.le_refl _) (by omega)
set_option maxRecDepth 20000 in
theorem b_23 {g : gzG} {d i z : Nat} {I : gzIT} {J : gzJT} {Q : gzO → gzS → Prop} (hi : i + 6 ≤ g.2.2.2.2.2 1 61) (hz : z + 1 ≤ 512) (h : gzR I I) (K : ∀ (l5 l6 : Option gzV) (I2 : gzIT) (J2 : gzJT) (z2 : Nat), gzR I2 I2 → z ≤ z2 → z2 ≤ z + 1 → gzX g 512 (d + 130) mLaw 2739 [some (.inr (.inr (0, 61))), some (.inr (.inr (0, 30))), some (.inr (.inr (0, 47))), some (.inr (.inr (0, 59))), some (.inl (Int32.ofNat i)), l5, l6] [] (gzN, gzR0, I2, J2) z2 Q) :
    gzX g 512 (d + 130) mLaw 1361 [some (.inr (.inr (0, 61))), some (.inr (.inr (0, 30))), some (.inr (.inr (0, 47))), some (.inr (.inr (0, 59))), some (.inl (Int32.ofNat i)), none, none] [] (gzN, gzR0, I, J) z Q := by
  obtain ⟨v, I2, J2, hf, hm, hR⟩ := L_misses (J := J) (gzXs g (i + 1)) h
  refine gz_aload_n (pc := 1361) dL_law__1361 rfl ?_
  refine gz_aload_n (pc := 1362) dL_law__1362 rfl ?_
  refine gz_iload (pc := 1363) dL_law__1363 rfl ?_
  refine gz_iconst (pc := 1365) dL_law__1365 (v := 1) (by decide) ?_
  refine gz_iadd (pc := 1366) dL_law__1366 ?_
  refine gz_sld (j := i + 1) (pc := 1367) dL_law__1367 (Int32.ofNat_add i 1).symm (by omega) ?_
  refine gz_V (zy := mX11_misses) (zc := 0) (d := d + 129) (pc := 1368) (t := 0) (o := 30) (ci := 11) (r := (RX11, TX11, 13)) [.inl (gzXs g (i + 1))] rfl dL_law__1368 lkL_210 MvX11_misses rfl (gzOk_of (by decide)) rfl rfl rfl (Or.inr rfl) (fun h => h) (by exact Nat.le_of_ble_eq_true rfl) ?_
  refine gz_useI (d := d + 129) (c_X11_misses (d := d + 126) hf) ?_
  refine gz_aload_n (pc := 1371) dL_law__1371 rfl ?_
  refine gz_aload_n (pc := 1372) dL_law__1372 rfl ?_
  refine gz_iload (pc := 1373) dL_law__1373 rfl ?_
  refine gz_iconst (pc := 1375) dL_law__1375 (v := 1) (by decide) ?_
  refine gz_iadd (pc := 1376) dL_law__1376 ?_
  refine gz_sld (j := i + 1) (pc := 1377) dL_law__1377 (Int32.ofNat_add i 1).symm (by omega) ?_
  refine gz_V (zy := mX12_misses) (zc := 0) (d := d + 129) (pc := 1378) (t := 0) (o := 47) (ci := 12) (r := (RX12, TX12, 21)) [.inl (gzXs g (i + 1))] rfl dL_law__1378 lkL_213 MvX12_misses rfl (gzOk_of (by decide)) rfl rfl rfl (Or.inr rfl) (fun h => h) (by exact Nat.le_of_ble_eq_true rfl) ?_
  refine gz_useI (d := d + 129) (c_X12_misses (d := d + 124) hm) ?_
  refine gz_ic_eq (pc := 1381) (tgt := 2739) dL_law__1381 (by decide) (fun _ => ?_) (fun c => absurd rfl c)
  exact K _ _ _ _ _ hR (Nat.le_refl _) (by omega)
set_option maxRecDepth 20000 in
theorem b_24 {g : gzG} {d i z : Nat} {I : gzIT} {J : gzJT} {Q : gzO → gzS → Prop} (hi : i + 6 ≤ g.2.2.2.2.2 1 61) (hz : z + 1 ≤ 512) (h : gzR I I) (K : ∀ (l5 l6 : Option gzV) (I2 : gzIT) (J2 : gzJT) (z2 : Nat), gzR I2 I2 → z ≤ z2 → z2 ≤ z + 1 → gzX g 512 (d + 130) mLaw 2739 [some (.inr (.inr (0, 61))), some (.inr (.inr (0, 30))), some (.inr (.inr (0, 47))), some (.inr (.inr (0, 59))), some (.inl (Int32.ofNat i)), l5, l6] [] (gzN, gzR0, I2, J2) z2 Q) :
    gzX g 512 (d + 130) mLaw 1386 [some (.inr (.inr (0, 61))), some (.inr (.inr (0, 30))), some (.inr (.inr (0, 47))), some (.inr (.inr (0, 59))), some (.inl (Int32.ofNat i)), none, none] [] (gzN, gzR0, I, J) z Q := by
  obtain ⟨e, I1, hf, hE, hM⟩ := L_thaw (J := J) (gzXs g (i + 1)) h
  refine gz_aload_n (pc := 1386) dL_law__1386 rfl ?_
  refine gz_aload_n (pc := 1387) dL_law__1387 rfl ?_
  refine gz_iload (pc := 1388) dL_law__1388 rfl ?_
  refine gz_iconst (pc := 1390) dL_law__1390 (v := 1) (by decide) ?_
  refine gz_iadd (pc := 1391) dL_law__1391 ?_
  refine gz_sld (j := i + 1) (pc := 1392) dL_law__1392 (Int32.ofNat_add i 1).symm (by omega) ?_
  refine gz_aload_n (pc := 1393) dL_law__1393 rfl ?_
  refine gz_SH (zy := mL_thaw) (hh := hL_thaw) (zc := 1) (d := d + 129) (pc := 1394) [.inr (.inr (0, 30)), .inl (gzXs g (i + 1)), .inr (.inr (0, 59))] rfl dL_law__1394 lhL_thaw MhL_thaw rfl (Or.inr rfl) (fun _ => by omega) (by exact Nat.le_of_ble_eq_true rfl) ?_
  refine gzCh.mono (h_L_thaw (d := d + 68) hf hE) ?_
  cases e with
  | ok v0 =>
    rintro _ _ ⟨rfl, rfl⟩
    obtain ⟨v, I2, J2, hm, hs, hj, hR⟩ := hM (gz_uj J 0 59 0 (gzCvI v0))
    obtain ⟨rfl, hth⟩ := hs
    show gzX g 512 (d + 130) mLaw 1397 [some (.inr (.inr (0, 61))), some (.inr (.inr (0, 30))), some (.inr (.inr (0, 47))), some (.inr (.inr (0, 59))), some (.inl (Int32.ofNat i)), none, none] [.inl 0] (gzN, gzR0, I1, gz_uj J 0 59 0 (gzCvI v0)) (z + 1) Q
    refine gz_istore (pc := 1397) dL_law__1397 (by decide) rfl (loc2 := [some (.inr (.inr (0, 61))), some (.inr (.inr (0, 30))), some (.inr (.inr (0, 47))), some (.inr (.inr (0, 59))), some (.inl (Int32.ofNat i)), some (.inl 0), none]) rfl ?_
    refine gz_aload_n (pc := 1399) dL_law__1399 rfl ?_
    refine gz_aload_n (pc := 1400) dL_law__1400 rfl ?_
    refine gz_iload (pc := 1401) dL_law__1401 rfl ?_
    refine gz_iconst (pc := 1403) dL_law__1403 (v := 1) (by decide) ?_
    refine gz_iadd (pc := 1404) dL_law__1404 ?_
    refine gz_sld (j := i + 1) (pc := 1405) dL_law__1405 (Int32.ofNat_add i 1).symm (by omega) ?_
    refine gz_V (zy := mX12_thaw) (zc := 0) (d := d + 129) (pc := 1406) (t := 0) (o := 47) (ci := 12) (r := (RX12, TX12, 21)) [.inl (gzXs g (i + 1))] rfl dL_law__1406 lkL_216 MvX12_thaw rfl (gzOk_of (by decide)) rfl rfl rfl (Or.inr rfl) (fun h => h) (by exact Nat.le_of_ble_eq_true rfl) ?_
    refine gz_useI (d := d + 129) (c_X12_thaw (d := d + 124) hm) ?_
    refine gz_istore (pc := 1409) dL_law__1409 (by decide) rfl (loc2 := [some (.inr (.inr (0, 61))), some (.inr (.inr (0, 30))), some (.inr (.inr (0, 47))), some (.inr (.inr (0, 59))), some (.inl (Int32.ofNat i)), some (.inl 0), some (.inl v0)]) rfl ?_
    refine gz_aload_n (pc := 1411) dL_law__1411 rfl ?_
    refine gz_V (zy := mX12_thrown) (zc := 0) (d := d + 129) (pc := 1412) (t := 0) (o := 47) (ci := 12) (r := (RX12, TX12, 21)) [] rfl dL_law__1412 lkL_134 MvX12_thrown rfl (gzOk_of (by decide)) rfl rfl rfl (Or.inr rfl) (fun h => h) (by exact Nat.le_of_ble_eq_true rfl) ?_
    refine gz_useI (d := d + 129) (c_X12_thrown (d := d + 129) rfl) ?_
    dsimp only
    rw [hth]
    refine gz_iload (pc := 1415) dL_law__1415 rfl ?_
    refine gz_ic_eq (pc := 1417) (tgt := 1422) dL_law__1417 (by decide) (fun _ => ?_) (fun c => absurd rfl c)
    refine gz_iload (pc := 1422) dL_law__1422 rfl ?_
    refine gz_if_ne (pc := 1424) (tgt := 1439) dL_law__1424 (by decide) (fun c => absurd rfl c) (fun _ => ?_)
    refine gz_aload_n (pc := 1427) dL_law__1427 rfl ?_
    refine gz_iconst (pc := 1428) dL_law__1428 (v := 0) (by decide) ?_
    refine gz_lald (N := 1) (pc := 1429) dL_law__1429 (gzOk_of (by decide)) rfl (gz_vpd (by decide)) ?_
    rw [show J2 0 59 (0 : Int32).toNatClampNeg = gzCvI v0 from hj.trans gz_uj_s0]
    refine gz_iload (pc := 1430) dL_law__1430 rfl ?_
    refine gz_i2l (pc := 1432) dL_law__1432 ?_
    refine gz_lcmp (pc := 1433) dL_law__1433 ?_
    first | rw [show lg_cmp (gzCvI v0) v0.toInt64 = 0 from gz_cmp_self] | rw [gz_cmp_self]
    refine gz_if_eq (pc := 1434) (tgt := 1439) dL_law__1434 (by decide) (fun _ => ?_) (fun c => absurd rfl c)
    refine gz_goto (pc := 1439) (tgt := 2739) dL_law__1439 (by decide) ?_
    exact K _ _ _ _ _ hR (by omega) (by omega)
  | error E =>
    rintro _ _ ⟨kk, hk, rfl, rfl⟩
    obtain ⟨v, I2, J2, hm, ⟨k2, hk2, hth⟩, hj, hR⟩ := hM J
    have ekk : k2 = kk := gzHs_inj (by decide) hk2 hk
    subst ekk
    have hkl : k2 < 2 ^ 20 := gzHs_lt hk (by decide)
    show gzX g 512 (d + 130) mLaw 1397 [some (.inr (.inr (0, 61))), some (.inr (.inr (0, 30))), some (.inr (.inr (0, 47))), some (.inr (.inr (0, 59))), some (.inl (Int32.ofNat i)), none, none] [.inl (Int32.ofNat (k2 + 1))] (gzN, gzR0, I1, J) (z + 1) Q
    refine gz_istore (pc := 1397) dL_law__1397 (by decide) rfl (loc2 := [some (.inr (.inr (0, 61))), some (.inr (.inr (0, 30))), some (.inr (.inr (0, 47))), some (.inr (.inr (0, 59))), some (.inl (Int32.ofNat i)), some (.inl (Int32.ofNat (k2 + 1))), none]) rfl ?_
    refine gz_aload_n (pc := 1399) dL_law__1399 rfl ?_
    refine gz_aload_n (pc := 1400) dL_law__1400 rfl ?_
    refine gz_iload (pc := 1401) dL_law__1401 rfl ?_
    refine gz_iconst (pc := 1403) dL_law__1403 (v := 1) (by decide) ?_
    refine gz_iadd (pc := 1404) dL_law__1404 ?_
    refine gz_sld (j := i + 1) (pc := 1405) dL_law__1405 (Int32.ofNat_add i 1).symm (by omega) ?_
    refine gz_V (zy := mX12_thaw) (zc := 0) (d := d + 129) (pc := 1406) (t := 0) (o := 47) (ci := 12) (r := (RX12, TX12, 21)) [.inl (gzXs g (i + 1))] rfl dL_law__1406 lkL_216 MvX12_thaw rfl (gzOk_of (by decide)) rfl rfl rfl (Or.inr rfl) (fun h => h) (by exact Nat.le_of_ble_eq_true rfl) ?_
    refine gz_useI (d := d + 129) (c_X12_thaw (d := d + 124) hm) ?_
    refine gz_istore (pc := 1409) dL_law__1409 (by decide) rfl (loc2 := [some (.inr (.inr (0, 61))), some (.inr (.inr (0, 30))), some (.inr (.inr (0, 47))), some (.inr (.inr (0, 59))), some (.inl (Int32.ofNat i)), some (.inl (Int32.ofNat (k2 + 1))), some (.inl v)]) rfl ?_
    refine gz_aload_n (pc := 1411) dL_law__1411 rfl ?_
    refine gz_V (zy := mX12_thrown) (zc := 0) (d := d + 129) (pc := 1412) (t := 0) (o := 47) (ci := 12) (r := (RX12, TX12, 21)) [] rfl dL_law__1412 lkL_134 MvX12_thrown rfl (gzOk_of (by decide)) rfl rfl rfl (Or.inr rfl) (fun h => h) (by exact Nat.le_of_ble_eq_true rfl) ?_
    refine gz_useI (d := d + 129) (c_X12_thrown (d := d + 129) rfl) ?_
    dsimp only
    rw [hth]
    refine gz_iload (pc := 1415) dL_law__1415 rfl ?_
    refine gz_ic_eq (pc := 1417) (tgt := 1422) dL_law__1417 (by decide) (fun _ => ?_) (fun c => absurd rfl c)
    refine gz_iload (pc := 1422) dL_law__1422 rfl ?_
    refine gz_if_ne (pc := 1424) (tgt := 1439) dL_law__1424 (by decide) (fun _ => ?_) (fun c => absurd c (gzHs_ne hkl))
    refine gz_goto (pc := 1439) (tgt := 2739) dL_law__1439 (by decide) ?_
    exact K _ _ _ _ _ hR (by omega) (by omega)
set_option maxRecDepth 20000 in
theorem b_25 {g : gzG} {d i z : Nat} {I : gzIT} {J : gzJT} {Q : gzO → gzS → Prop} (hi : i + 6 ≤ g.2.2.2.2.2 1 61) (hz : z + 1 ≤ 512) (h : gzR I I) (K : ∀ (l5 l6 : Option gzV) (I2 : gzIT) (J2 : gzJT) (z2 : Nat), gzR I2 I2 → z ≤ z2 → z2 ≤ z + 1 → gzX g 512 (d + 130) mLaw 2739 [some (.inr (.inr (0, 61))), some (.inr (.inr (0, 30))), some (.inr (.inr (0, 47))), some (.inr (.inr (0, 59))), some (.inl (Int32.ofNat i)), l5, l6] [] (gzN, gzR0, I2, J2) z2 Q) :
    gzX g 512 (d + 130) mLaw 1442 [some (.inr (.inr (0, 61))), some (.inr (.inr (0, 30))), some (.inr (.inr (0, 47))), some (.inr (.inr (0, 59))), some (.inl (Int32.ofNat i)), none, none] [] (gzN, gzR0, I, J) z Q := by
  obtain ⟨v, I1, I2, J2, hf, hm, hR⟩ := L_friends (J := J) h
  refine gz_aload_n (pc := 1442) dL_law__1442 rfl ?_
  refine gz_V (zy := mX11_friends) (zc := 0) (d := d + 129) (pc := 1443) (t := 0) (o := 30) (ci := 11) (r := (RX11, TX11, 13)) [] rfl dL_law__1443 lkL_217 MvX11_friends rfl (gzOk_of (by decide)) rfl rfl rfl (Or.inr rfl) (fun h => h) (by exact Nat.le_of_ble_eq_true rfl) ?_
  refine gz_useI (d := d + 129) (c_X11_friends (d := d + 127) hf) ?_
  refine gz_aload_n (pc := 1446) dL_law__1446 rfl ?_
  refine gz_V (zy := mX12_friends) (zc := 0) (d := d + 129) (pc := 1447) (t := 0) (o := 47) (ci := 12) (r := (RX12, TX12, 21)) [] rfl dL_law__1447 lkL_220 MvX12_friends rfl (gzOk_of (by decide)) rfl rfl rfl (Or.inr rfl) (fun h => h) (by exact Nat.le_of_ble_eq_true rfl) ?_
  refine gz_useI (d := d + 129) (c_X12_friends (d := d + 124) hm) ?_
  refine gz_ic_eq (pc := 1450) (tgt := 2739) dL_law__1450 (by decide) (fun _ => ?_) (fun c => absurd rfl c)
  exact K _ _ _ _ _ hR (Nat.le_refl _) (by omega)
set_option maxRecDepth 20000 in
theorem b_26 {g : gzG} {d i z : Nat} {I : gzIT} {J : gzJT} {Q : gzO → gzS → Prop} (hi : i + 6 ≤ g.2.2.2.2.2 1 61) (hz : z + 1 ≤ 512) (h : gzR I I) (K : ∀ (l5 l6 : Option gzV) (I2 : gzIT) (J2 : gzJT) (z2 : Nat), gzR I2 I2 → z ≤ z2 → z2 ≤ z + 1 → gzX g 512 (d + 130) mLaw 2739 [some (.inr (.inr (0, 61))), some (.inr (.inr (0, 30))), some (.inr (.inr (0, 47))), some (.inr (.inr (0, 59))), some (.inl (Int32.ofNat i)), l5, l6] [] (gzN, gzR0, I2, J2) z2 Q) :
    gzX g 512 (d + 130) mLaw 1455 [some (.inr (.inr (0, 61))), some (.inr (.inr (0, 30))), some (.inr (.inr (0, 47))), some (.inr (.inr (0, 59))), some (.inl (Int32.ofNat i)), none, none] [] (gzN, gzR0, I, J) z Q := by
  by_cases hb1 : gzXs g (i + 1) = 0
  · skip
    obtain ⟨v, I2, J2, hf, hm, hR⟩ := L_camps (J := J) 0 h
    refine gz_aload_n (pc := 1455) dL_law__1455 rfl ?_
    refine gz_aload_n (pc := 1456) dL_law__1456 rfl ?_
    refine gz_iload (pc := 1457) dL_law__1457 rfl ?_
    refine gz_iconst (pc := 1459) dL_law__1459 (v := 1) (by decide) ?_
    refine gz_iadd (pc := 1460) dL_law__1460 ?_
    refine gz_sld (j := i + 1) (pc := 1461) dL_law__1461 (Int32.ofNat_add i 1).symm (by omega) ?_
    refine gz_if_eq (pc := 1462) (tgt := 1469) dL_law__1462 (by decide) (fun _ => ?_) (fun c => absurd hb1 c)
    refine gz_iconst (pc := 1469) dL_law__1469 (v := 0) (by decide) ?_
    refine gz_V (zy := mX11_camps) (zc := 0) (d := d + 129) (pc := 1470) (t := 0) (o := 30) (ci := 11) (r := (RX11, TX11, 13)) [.inl 0] rfl dL_law__1470 lkL_221 MvX11_camps rfl (gzOk_of (by decide)) rfl rfl rfl (Or.inr rfl) (fun h => h) (by exact Nat.le_of_ble_eq_true rfl) ?_
    refine gz_useI (d := d + 129) (c_X11_camps (d := d + 127) hf) ?_
    refine gz_aload_n (pc := 1473) dL_law__1473 rfl ?_
    refine gz_aload_n (pc := 1474) dL_law__1474 rfl ?_
    refine gz_iload (pc := 1475) dL_law__1475 rfl ?_
    refine gz_iconst (pc := 1477) dL_law__1477 (v := 1) (by decide) ?_
    refine gz_iadd (pc := 1478) dL_law__1478 ?_
    refine gz_sld (j := i + 1) (pc := 1479) dL_law__1479 (Int32.ofNat_add i 1).symm (by omega) ?_
    refine gz_if_eq (pc := 1480) (tgt := 1487) dL_law__1480 (by decide) (fun _ => ?_) (fun c => absurd hb1 c)
    refine gz_iconst (pc := 1487) dL_law__1487 (v := 0) (by decide) ?_
    refine gz_V (zy := mX12_camps) (zc := 0) (d := d + 129) (pc := 1488) (t := 0) (o := 47) (ci := 12) (r := (RX12, TX12, 21)) [.inl 0] rfl dL_law__1488 lkL_224 MvX12_camps rfl (gzOk_of (by decide)) rfl rfl rfl (Or.inr rfl) (fun h => h) (by exact Nat.le_of_ble_eq_true rfl) ?_
    refine gz_useI (d := d + 129) (c_X12_camps (d := d + 125) hm) ?_
    refine gz_ic_eq (pc := 1491) (tgt := 2739) dL_law__1491 (by decide) (fun _ => ?_) (fun c => absurd rfl c)
    exact K _ _ _ _ _ hR (Nat.le_refl _) (by omega)
  · skip
    obtain ⟨v, I2, J2, hf, hm, hR⟩ := L_camps (J := J) 1 h
    refine gz_aload_n (pc := 1455) dL_law__1455 rfl ?_
    refine gz_aload_n (pc := 1456) dL_law__1456 rfl ?_
    refine gz_iload (pc := 1457) dL_law__1457 rfl ?_
    refine gz_iconst (pc := 1459) dL_law__1459 (v := 1) (by decide) ?_
    refine gz_iadd (pc := 1460) dL_law__1460 ?_
    refine gz_sld (j := i + 1) (pc := 1461) dL_law__1461 (Int32.ofNat_add i 1).symm (by omega) ?_
    refine gz_if_eq (pc := 1462) (tgt := 1469) dL_law__1462 (by decide) (fun c => absurd c hb1) (fun _ => ?_)
    refine gz_iconst (pc := 1465) dL_law__1465 (v := 1) (by decide) ?_
    refine gz_goto (pc := 1466) (tgt := 1470) dL_law__1466 (by decide) ?_
    refine gz_V (zy := mX11_camps) (zc := 0) (d := d + 129) (pc := 1470) (t := 0) (o := 30) (ci := 11) (r := (RX11, TX11, 13)) [.inl 1] rfl dL_law__1470 lkL_221 MvX11_camps rfl (gzOk_of (by decide)) rfl rfl rfl (Or.inr rfl) (fun h => h) (by exact Nat.le_of_ble_eq_true rfl) ?_
    refine gz_useI (d := d + 129) (c_X11_camps (d := d + 127) hf) ?_
    refine gz_aload_n (pc := 1473) dL_law__1473 rfl ?_
    refine gz_aload_n (pc := 1474) dL_law__1474 rfl ?_
    refine gz_iload (pc := 1475) dL_law__1475 rfl ?_
    refine gz_iconst (pc := 1477) dL_law__1477 (v := 1) (by decide) ?_
    refine gz_iadd (pc := 1478) dL_law__1478 ?_
    refine gz_sld (j := i + 1) (pc := 1479) dL_law__1479 (Int32.ofNat_add i 1).symm (by omega) ?_
    refine gz_if_eq (pc := 1480) (tgt := 1487) dL_law__1480 (by decide) (fun c => absurd c hb1) (fun _ => ?_)
    refine gz_iconst (pc := 1483) dL_law__1483 (v := 1) (by decide) ?_
    refine gz_goto (pc := 1484) (tgt := 1488) dL_law__1484 (by decide) ?_
    refine gz_V (zy := mX12_camps) (zc := 0) (d := d + 129) (pc := 1488) (t := 0) (o := 47) (ci := 12) (r := (RX12, TX12, 21)) [.inl 1] rfl dL_law__1488 lkL_224 MvX12_camps rfl (gzOk_of (by decide)) rfl rfl rfl (Or.inr rfl) (fun h => h) (by exact Nat.le_of_ble_eq_true rfl) ?_
    refine gz_useI (d := d + 129) (c_X12_camps (d := d + 125) hm) ?_
    refine gz_ic_eq (pc := 1491) (tgt := 2739) dL_law__1491 (by decide) (fun _ => ?_) (fun c => absurd rfl c)
    exact K _ _ _ _ _ hR (Nat.le_refl _) (by omega)
set_option maxRecDepth 20000 in
theorem b_27 {g : gzG} {d i z : Nat} {I : gzIT} {J : gzJT} {Q : gzO → gzS → Prop} (hi : i + 6 ≤ g.2.2.2.2.2 1 61) (hz : z + 1 ≤ 512) (h : gzR I I) (K : ∀ (l5 l6 : Option gzV) (I2 : gzIT) (J2 : gzJT) (z2 : Nat), gzR I2 I2 → z ≤ z2 → z2 ≤ z + 1 → gzX g 512 (d + 130) mLaw 2739 [some (.inr (.inr (0, 61))), some (.inr (.inr (0, 30))), some (.inr (.inr (0, 47))), some (.inr (.inr (0, 59))), some (.inl (Int32.ofNat i)), l5, l6] [] (gzN, gzR0, I2, J2) z2 Q) :
    gzX g 512 (d + 130) mLaw 1496 [some (.inr (.inr (0, 61))), some (.inr (.inr (0, 30))), some (.inr (.inr (0, 47))), some (.inr (.inr (0, 59))), some (.inl (Int32.ofNat i)), none, none] [] (gzN, gzR0, I, J) z Q := by
  by_cases hb1 : gzXs g (i + 1) = 0
  · skip
    obtain ⟨e, I1, hf, hE, hM⟩ := L_cuts (J := J) 0 h
    refine gz_aload_n (pc := 1496) dL_law__1496 rfl ?_
    refine gz_aload_n (pc := 1497) dL_law__1497 rfl ?_
    refine gz_iload (pc := 1498) dL_law__1498 rfl ?_
    refine gz_iconst (pc := 1500) dL_law__1500 (v := 1) (by decide) ?_
    refine gz_iadd (pc := 1501) dL_law__1501 ?_
    refine gz_sld (j := i + 1) (pc := 1502) dL_law__1502 (Int32.ofNat_add i 1).symm (by omega) ?_
    refine gz_if_eq (pc := 1503) (tgt := 1510) dL_law__1503 (by decide) (fun _ => ?_) (fun c => absurd hb1 c)
    refine gz_iconst (pc := 1510) dL_law__1510 (v := 0) (by decide) ?_
    refine gz_aload_n (pc := 1511) dL_law__1511 rfl ?_
    refine gz_SH (zy := mL_cuts) (hh := hL_cuts) (zc := 1) (d := d + 129) (pc := 1512) [.inr (.inr (0, 30)), .inl 0, .inr (.inr (0, 59))] rfl dL_law__1512 lhL_cuts MhL_cuts rfl (Or.inr rfl) (fun _ => by omega) (by exact Nat.le_of_ble_eq_true rfl) ?_
    refine gzCh.mono (h_L_cuts (d := d + 68) hf hE) ?_
    cases e with
    | ok v0 =>
      rintro _ _ ⟨rfl, rfl⟩
      obtain ⟨v, I2, J2, hm, hs, hj, hR⟩ := hM (gz_uj J 0 59 0 (gzCvI v0))
      obtain ⟨rfl, hth⟩ := hs
      show gzX g 512 (d + 130) mLaw 1515 [some (.inr (.inr (0, 61))), some (.inr (.inr (0, 30))), some (.inr (.inr (0, 47))), some (.inr (.inr (0, 59))), some (.inl (Int32.ofNat i)), none, none] [.inl 0] (gzN, gzR0, I1, gz_uj J 0 59 0 (gzCvI v0)) (z + 1) Q
      refine gz_istore (pc := 1515) dL_law__1515 (by decide) rfl (loc2 := [some (.inr (.inr (0, 61))), some (.inr (.inr (0, 30))), some (.inr (.inr (0, 47))), some (.inr (.inr (0, 59))), some (.inl (Int32.ofNat i)), some (.inl 0), none]) rfl ?_
      refine gz_aload_n (pc := 1517) dL_law__1517 rfl ?_
      refine gz_aload_n (pc := 1518) dL_law__1518 rfl ?_
      refine gz_iload (pc := 1519) dL_law__1519 rfl ?_
      refine gz_iconst (pc := 1521) dL_law__1521 (v := 1) (by decide) ?_
      refine gz_iadd (pc := 1522) dL_law__1522 ?_
      refine gz_sld (j := i + 1) (pc := 1523) dL_law__1523 (Int32.ofNat_add i 1).symm (by omega) ?_
      refine gz_if_eq (pc := 1524) (tgt := 1531) dL_law__1524 (by decide) (fun _ => ?_) (fun c => absurd hb1 c)
      refine gz_iconst (pc := 1531) dL_law__1531 (v := 0) (by decide) ?_
      refine gz_V (zy := mX12_cuts) (zc := 0) (d := d + 129) (pc := 1532) (t := 0) (o := 47) (ci := 12) (r := (RX12, TX12, 21)) [.inl 0] rfl dL_law__1532 lkL_228 MvX12_cuts rfl (gzOk_of (by decide)) rfl rfl rfl (Or.inr rfl) (fun h => h) (by exact Nat.le_of_ble_eq_true rfl) ?_
      refine gz_useI (d := d + 129) (c_X12_cuts (d := d + 125) hm) ?_
      refine gz_istore (pc := 1535) dL_law__1535 (by decide) rfl (loc2 := [some (.inr (.inr (0, 61))), some (.inr (.inr (0, 30))), some (.inr (.inr (0, 47))), some (.inr (.inr (0, 59))), some (.inl (Int32.ofNat i)), some (.inl 0), some (.inl v0)]) rfl ?_
      refine gz_aload_n (pc := 1537) dL_law__1537 rfl ?_
      refine gz_V (zy := mX12_thrown) (zc := 0) (d := d + 129) (pc := 1538) (t := 0) (o := 47) (ci := 12) (r := (RX12, TX12, 21)) [] rfl dL_law__1538 lkL_134 MvX12_thrown rfl (gzOk_of (by decide)) rfl rfl rfl (Or.inr rfl) (fun h => h) (by exact Nat.le_of_ble_eq_true rfl) ?_
      refine gz_useI (d := d + 129) (c_X12_thrown (d := d + 129) rfl) ?_
      dsimp only
      rw [hth]
      refine gz_iload (pc := 1541) dL_law__1541 rfl ?_
      refine gz_ic_eq (pc := 1543) (tgt := 1548) dL_law__1543 (by decide) (fun _ => ?_) (fun c => absurd rfl c)
      refine gz_iload (pc := 1548) dL_law__1548 rfl ?_
      refine gz_if_ne (pc := 1550) (tgt := 1565) dL_law__1550 (by decide) (fun c => absurd rfl c) (fun _ => ?_)
      refine gz_aload_n (pc := 1553) dL_law__1553 rfl ?_
      refine gz_iconst (pc := 1554) dL_law__1554 (v := 0) (by decide) ?_
      refine gz_lald (N := 1) (pc := 1555) dL_law__1555 (gzOk_of (by decide)) rfl (gz_vpd (by decide)) ?_
      rw [show J2 0 59 (0 : Int32).toNatClampNeg = gzCvI v0 from hj.trans gz_uj_s0]
      refine gz_iload (pc := 1556) dL_law__1556 rfl ?_
      refine gz_i2l (pc := 1558) dL_law__1558 ?_
      refine gz_lcmp (pc := 1559) dL_law__1559 ?_
      first | rw [show lg_cmp (gzCvI v0) v0.toInt64 = 0 from gz_cmp_self] | rw [gz_cmp_self]
      refine gz_if_eq (pc := 1560) (tgt := 1565) dL_law__1560 (by decide) (fun _ => ?_) (fun c => absurd rfl c)
      refine gz_goto (pc := 1565) (tgt := 2739) dL_law__1565 (by decide) ?_
      exact K _ _ _ _ _ hR (by omega) (by omega)
    | error E =>
      rintro _ _ ⟨kk, hk, rfl, rfl⟩
      obtain ⟨v, I2, J2, hm, ⟨k2, hk2, hth⟩, hj, hR⟩ := hM J
      have ekk : k2 = kk := gzHs_inj (by decide) hk2 hk
      subst ekk
      have hkl : k2 < 2 ^ 20 := gzHs_lt hk (by decide)
      show gzX g 512 (d + 130) mLaw 1515 [some (.inr (.inr (0, 61))), some (.inr (.inr (0, 30))), some (.inr (.inr (0, 47))), some (.inr (.inr (0, 59))), some (.inl (Int32.ofNat i)), none, none] [.inl (Int32.ofNat (k2 + 1))] (gzN, gzR0, I1, J) (z + 1) Q
      refine gz_istore (pc := 1515) dL_law__1515 (by decide) rfl (loc2 := [some (.inr (.inr (0, 61))), some (.inr (.inr (0, 30))), some (.inr (.inr (0, 47))), some (.inr (.inr (0, 59))), some (.inl (Int32.ofNat i)), some (.inl (Int32.ofNat (k2 + 1))), none]) rfl ?_
      refine gz_aload_n (pc := 1517) dL_law__1517 rfl ?_
      refine gz_aload_n (pc := 1518) dL_law__1518 rfl ?_
      refine gz_iload (pc := 1519) dL_law__1519 rfl ?_
      refine gz_iconst (pc := 1521) dL_law__1521 (v := 1) (by decide) ?_
      refine gz_iadd (pc := 1522) dL_law__1522 ?_
      refine gz_sld (j := i + 1) (pc := 1523) dL_law__1523 (Int32.ofNat_add i 1).symm (by omega) ?_
      refine gz_if_eq (pc := 1524) (tgt := 1531) dL_law__1524 (by decide) (fun _ => ?_) (fun c => absurd hb1 c)
      refine gz_iconst (pc := 1531) dL_law__1531 (v := 0) (by decide) ?_
      refine gz_V (zy := mX12_cuts) (zc := 0) (d := d + 129) (pc := 1532) (t := 0) (o := 47) (ci := 12) (r := (RX12, TX12, 21)) [.inl 0] rfl dL_law__1532 lkL_228 MvX12_cuts rfl (gzOk_of (by decide)) rfl rfl rfl (Or.inr rfl) (fun h => h) (by exact Nat.le_of_ble_eq_true rfl) ?_
      refine gz_useI (d := d + 129) (c_X12_cuts (d := d + 125) hm) ?_
      refine gz_istore (pc := 1535) dL_law__1535 (by decide) rfl (loc2 := [some (.inr (.inr (0, 61))), some (.inr (.inr (0, 30))), some (.inr (.inr (0, 47))), some (.inr (.inr (0, 59))), some (.inl (Int32.ofNat i)), some (.inl (Int32.ofNat (k2 + 1))), some (.inl v)]) rfl ?_
      refine gz_aload_n (pc := 1537) dL_law__1537 rfl ?_
      refine gz_V (zy := mX12_thrown) (zc := 0) (d := d + 129) (pc := 1538) (t := 0) (o := 47) (ci := 12) (r := (RX12, TX12, 21)) [] rfl dL_law__1538 lkL_134 MvX12_thrown rfl (gzOk_of (by decide)) rfl rfl rfl (Or.inr rfl) (fun h => h) (by exact Nat.le_of_ble_eq_true rfl) ?_
      refine gz_useI (d := d + 129) (c_X12_thrown (d := d + 129) rfl) ?_
      dsimp only
      rw [hth]
      refine gz_iload (pc := 1541) dL_law__1541 rfl ?_
      refine gz_ic_eq (pc := 1543) (tgt := 1548) dL_law__1543 (by decide) (fun _ => ?_) (fun c => absurd rfl c)
      refine gz_iload (pc := 1548) dL_law__1548 rfl ?_
      refine gz_if_ne (pc := 1550) (tgt := 1565) dL_law__1550 (by decide) (fun _ => ?_) (fun c => absurd c (gzHs_ne hkl))
      refine gz_goto (pc := 1565) (tgt := 2739) dL_law__1565 (by decide) ?_
      exact K _ _ _ _ _ hR (by omega) (by omega)
  · skip
    obtain ⟨e, I1, hf, hE, hM⟩ := L_cuts (J := J) 1 h
    refine gz_aload_n (pc := 1496) dL_law__1496 rfl ?_
    refine gz_aload_n (pc := 1497) dL_law__1497 rfl ?_
    refine gz_iload (pc := 1498) dL_law__1498 rfl ?_
    refine gz_iconst (pc := 1500) dL_law__1500 (v := 1) (by decide) ?_
    refine gz_iadd (pc := 1501) dL_law__1501 ?_
    refine gz_sld (j := i + 1) (pc := 1502) dL_law__1502 (Int32.ofNat_add i 1).symm (by omega) ?_
    refine gz_if_eq (pc := 1503) (tgt := 1510) dL_law__1503 (by decide) (fun c => absurd c hb1) (fun _ => ?_)
    refine gz_iconst (pc := 1506) dL_law__1506 (v := 1) (by decide) ?_
    refine gz_goto (pc := 1507) (tgt := 1511) dL_law__1507 (by decide) ?_
    refine gz_aload_n (pc := 1511) dL_law__1511 rfl ?_
    refine gz_SH (zy := mL_cuts) (hh := hL_cuts) (zc := 1) (d := d + 129) (pc := 1512) [.inr (.inr (0, 30)), .inl 1, .inr (.inr (0, 59))] rfl dL_law__1512 lhL_cuts MhL_cuts rfl (Or.inr rfl) (fun _ => by omega) (by exact Nat.le_of_ble_eq_true rfl) ?_
    refine gzCh.mono (h_L_cuts (d := d + 68) hf hE) ?_
    cases e with
    | ok v0 =>
      rintro _ _ ⟨rfl, rfl⟩
      obtain ⟨v, I2, J2, hm, hs, hj, hR⟩ := hM (gz_uj J 0 59 0 (gzCvI v0))
      obtain ⟨rfl, hth⟩ := hs
      show gzX g 512 (d + 130) mLaw 1515 [some (.inr (.inr (0, 61))), some (.inr (.inr (0, 30))), some (.inr (.inr (0, 47))), some (.inr (.inr (0, 59))), some (.inl (Int32.ofNat i)), none, none] [.inl 0] (gzN, gzR0, I1, gz_uj J 0 59 0 (gzCvI v0)) (z + 1) Q
      refine gz_istore (pc := 1515) dL_law__1515 (by decide) rfl (loc2 := [some (.inr (.inr (0, 61))), some (.inr (.inr (0, 30))), some (.inr (.inr (0, 47))), some (.inr (.inr (0, 59))), some (.inl (Int32.ofNat i)), some (.inl 0), none]) rfl ?_
      refine gz_aload_n (pc := 1517) dL_law__1517 rfl ?_
      refine gz_aload_n (pc := 1518) dL_law__1518 rfl ?_
      refine gz_iload (pc := 1519) dL_law__1519 rfl ?_
      refine gz_iconst (pc := 1521) dL_law__1521 (v := 1) (by decide) ?_
      refine gz_iadd (pc := 1522) dL_law__1522 ?_
      refine gz_sld (j := i + 1) (pc := 1523) dL_law__1523 (Int32.ofNat_add i 1).symm (by omega) ?_
      refine gz_if_eq (pc := 1524) (tgt := 1531) dL_law__1524 (by decide) (fun c => absurd c hb1) (fun _ => ?_)
      refine gz_iconst (pc := 1527) dL_law__1527 (v := 1) (by decide) ?_
      refine gz_goto (pc := 1528) (tgt := 1532) dL_law__1528 (by decide) ?_
      refine gz_V (zy := mX12_cuts) (zc := 0) (d := d + 129) (pc := 1532) (t := 0) (o := 47) (ci := 12) (r := (RX12, TX12, 21)) [.inl 1] rfl dL_law__1532 lkL_228 MvX12_cuts rfl (gzOk_of (by decide)) rfl rfl rfl (Or.inr rfl) (fun h => h) (by exact Nat.le_of_ble_eq_true rfl) ?_
      refine gz_useI (d := d + 129) (c_X12_cuts (d := d + 125) hm) ?_
      refine gz_istore (pc := 1535) dL_law__1535 (by decide) rfl (loc2 := [some (.inr (.inr (0, 61))), some (.inr (.inr (0, 30))), some (.inr (.inr (0, 47))), some (.inr (.inr (0, 59))), some (.inl (Int32.ofNat i)), some (.inl 0), some (.inl v0)]) rfl ?_
      refine gz_aload_n (pc := 1537) dL_law__1537 rfl ?_
      refine gz_V (zy := mX12_thrown) (zc := 0) (d := d + 129) (pc := 1538) (t := 0) (o := 47) (ci := 12) (r := (RX12, TX12, 21)) [] rfl dL_law__1538 lkL_134 MvX12_thrown rfl (gzOk_of (by decide)) rfl rfl rfl (Or.inr rfl) (fun h => h) (by exact Nat.le_of_ble_eq_true rfl) ?_
      refine gz_useI (d := d + 129) (c_X12_thrown (d := d + 129) rfl) ?_
      dsimp only
      rw [hth]
      refine gz_iload (pc := 1541) dL_law__1541 rfl ?_
      refine gz_ic_eq (pc := 1543) (tgt := 1548) dL_law__1543 (by decide) (fun _ => ?_) (fun c => absurd rfl c)
      refine gz_iload (pc := 1548) dL_law__1548 rfl ?_
      refine gz_if_ne (pc := 1550) (tgt := 1565) dL_law__1550 (by decide) (fun c => absurd rfl c) (fun _ => ?_)
      refine gz_aload_n (pc := 1553) dL_law__1553 rfl ?_
      refine gz_iconst (pc := 1554) dL_law__1554 (v := 0) (by decide) ?_
      refine gz_lald (N := 1) (pc := 1555) dL_law__1555 (gzOk_of (by decide)) rfl (gz_vpd (by decide)) ?_
      rw [show J2 0 59 (0 : Int32).toNatClampNeg = gzCvI v0 from hj.trans gz_uj_s0]
      refine gz_iload (pc := 1556) dL_law__1556 rfl ?_
      refine gz_i2l (pc := 1558) dL_law__1558 ?_
      refine gz_lcmp (pc := 1559) dL_law__1559 ?_
      first | rw [show lg_cmp (gzCvI v0) v0.toInt64 = 0 from gz_cmp_self] | rw [gz_cmp_self]
      refine gz_if_eq (pc := 1560) (tgt := 1565) dL_law__1560 (by decide) (fun _ => ?_) (fun c => absurd rfl c)
      refine gz_goto (pc := 1565) (tgt := 2739) dL_law__1565 (by decide) ?_
      exact K _ _ _ _ _ hR (by omega) (by omega)
    | error E =>
      rintro _ _ ⟨kk, hk, rfl, rfl⟩
      obtain ⟨v, I2, J2, hm, ⟨k2, hk2, hth⟩, hj, hR⟩ := hM J
      have ekk : k2 = kk := gzHs_inj (by decide) hk2 hk
      subst ekk
      have hkl : k2 < 2 ^ 20 := gzHs_lt hk (by decide)
      show gzX g 512 (d + 130) mLaw 1515 [some (.inr (.inr (0, 61))), some (.inr (.inr (0, 30))), some (.inr (.inr (0, 47))), some (.inr (.inr (0, 59))), some (.inl (Int32.ofNat i)), none, none] [.inl (Int32.ofNat (k2 + 1))] (gzN, gzR0, I1, J) (z + 1) Q
      refine gz_istore (pc := 1515) dL_law__1515 (by decide) rfl (loc2 := [some (.inr (.inr (0, 61))), some (.inr (.inr (0, 30))), some (.inr (.inr (0, 47))), some (.inr (.inr (0, 59))), some (.inl (Int32.ofNat i)), some (.inl (Int32.ofNat (k2 + 1))), none]) rfl ?_
      refine gz_aload_n (pc := 1517) dL_law__1517 rfl ?_
      refine gz_aload_n (pc := 1518) dL_law__1518 rfl ?_
      refine gz_iload (pc := 1519) dL_law__1519 rfl ?_
      refine gz_iconst (pc := 1521) dL_law__1521 (v := 1) (by decide) ?_
      refine gz_iadd (pc := 1522) dL_law__1522 ?_
      refine gz_sld (j := i + 1) (pc := 1523) dL_law__1523 (Int32.ofNat_add i 1).symm (by omega) ?_
      refine gz_if_eq (pc := 1524) (tgt := 1531) dL_law__1524 (by decide) (fun c => absurd c hb1) (fun _ => ?_)
      refine gz_iconst (pc := 1527) dL_law__1527 (v := 1) (by decide) ?_
      refine gz_goto (pc := 1528) (tgt := 1532) dL_law__1528 (by decide) ?_
      refine gz_V (zy := mX12_cuts) (zc := 0) (d := d + 129) (pc := 1532) (t := 0) (o := 47) (ci := 12) (r := (RX12, TX12, 21)) [.inl 1] rfl dL_law__1532 lkL_228 MvX12_cuts rfl (gzOk_of (by decide)) rfl rfl rfl (Or.inr rfl) (fun h => h) (by exact Nat.le_of_ble_eq_true rfl) ?_
      refine gz_useI (d := d + 129) (c_X12_cuts (d := d + 125) hm) ?_
      refine gz_istore (pc := 1535) dL_law__1535 (by decide) rfl (loc2 := [some (.inr (.inr (0, 61))), some (.inr (.inr (0, 30))), some (.inr (.inr (0, 47))), some (.inr (.inr (0, 59))), some (.inl (Int32.ofNat i)), some (.inl (Int32.ofNat (k2 + 1))), some (.inl v)]) rfl ?_
      refine gz_aload_n (pc := 1537) dL_law__1537 rfl ?_
      refine gz_V (zy := mX12_thrown) (zc := 0) (d := d + 129) (pc := 1538) (t := 0) (o := 47) (ci := 12) (r := (RX12, TX12, 21)) [] rfl dL_law__1538 lkL_134 MvX12_thrown rfl (gzOk_of (by decide)) rfl rfl rfl (Or.inr rfl) (fun h => h) (by exact Nat.le_of_ble_eq_true rfl) ?_
      refine gz_useI (d := d + 129) (c_X12_thrown (d := d + 129) rfl) ?_
      dsimp only
      rw [hth]
      refine gz_iload (pc := 1541) dL_law__1541 rfl ?_
      refine gz_ic_eq (pc := 1543) (tgt := 1548) dL_law__1543 (by decide) (fun _ => ?_) (fun c => absurd rfl c)
      refine gz_iload (pc := 1548) dL_law__1548 rfl ?_
      refine gz_if_ne (pc := 1550) (tgt := 1565) dL_law__1550 (by decide) (fun _ => ?_) (fun c => absurd c (gzHs_ne hkl))
      refine gz_goto (pc := 1565) (tgt := 2739) dL_law__1565 (by decide) ?_
      exact K _ _ _ _ _ hR (by omega) (by omega)
set_option maxRecDepth 20000 in
theorem b_28 {g : gzG} {d i z : Nat} {I : gzIT} {J : gzJT} {Q : gzO → gzS → Prop} (hi : i + 6 ≤ g.2.2.2.2.2 1 61) (hz : z + 1 ≤ 512) (h : gzR I I) (K : ∀ (l5 l6 : Option gzV) (I2 : gzIT) (J2 : gzJT) (z2 : Nat), gzR I2 I2 → z ≤ z2 → z2 ≤ z + 1 → gzX g 512 (d + 130) mLaw 2739 [some (.inr (.inr (0, 61))), some (.inr (.inr (0, 30))), some (.inr (.inr (0, 47))), some (.inr (.inr (0, 59))), some (.inl (Int32.ofNat i)), l5, l6] [] (gzN, gzR0, I2, J2) z2 Q) :
    gzX g 512 (d + 130) mLaw 1568 [some (.inr (.inr (0, 61))), some (.inr (.inr (0, 30))), some (.inr (.inr (0, 47))), some (.inr (.inr (0, 59))), some (.inl (Int32.ofNat i)), none, none] [] (gzN, gzR0, I, J) z Q := by
  obtain ⟨e, I1, hf, hE, hM⟩ := L_ask (J := J) h
  refine gz_aload_n (pc := 1568) dL_law__1568 rfl ?_
  refine gz_aload_n (pc := 1569) dL_law__1569 rfl ?_
  refine gz_SH (zy := mL_ask) (hh := hL_ask) (zc := 1) (d := d + 129) (pc := 1570) [.inr (.inr (0, 30)), .inr (.inr (0, 59))] rfl dL_law__1570 lhL_ask MhL_ask rfl (Or.inr rfl) (fun _ => by omega) (by exact Nat.le_of_ble_eq_true rfl) ?_
  refine gzCh.mono (h_L_ask (d := d + 68) hf hE) ?_
  cases e with
  | ok v0 =>
    rintro _ _ ⟨rfl, rfl⟩
    obtain ⟨v, I2, J2, hm, hs, hj, hR⟩ := hM (gz_uj J 0 59 0 (gzCvI v0))
    obtain ⟨rfl, hth⟩ := hs
    show gzX g 512 (d + 130) mLaw 1573 [some (.inr (.inr (0, 61))), some (.inr (.inr (0, 30))), some (.inr (.inr (0, 47))), some (.inr (.inr (0, 59))), some (.inl (Int32.ofNat i)), none, none] [.inl 0] (gzN, gzR0, I1, gz_uj J 0 59 0 (gzCvI v0)) (z + 1) Q
    refine gz_istore (pc := 1573) dL_law__1573 (by decide) rfl (loc2 := [some (.inr (.inr (0, 61))), some (.inr (.inr (0, 30))), some (.inr (.inr (0, 47))), some (.inr (.inr (0, 59))), some (.inl (Int32.ofNat i)), some (.inl 0), none]) rfl ?_
    refine gz_aload_n (pc := 1575) dL_law__1575 rfl ?_
    refine gz_V (zy := mX12_ask) (zc := 0) (d := d + 129) (pc := 1576) (t := 0) (o := 47) (ci := 12) (r := (RX12, TX12, 21)) [] rfl dL_law__1576 lkL_231 MvX12_ask rfl (gzOk_of (by decide)) rfl rfl rfl (Or.inr rfl) (fun h => h) (by exact Nat.le_of_ble_eq_true rfl) ?_
    refine gz_useI (d := d + 129) (c_X12_ask (d := d + 127) hm) ?_
    refine gz_istore (pc := 1579) dL_law__1579 (by decide) rfl (loc2 := [some (.inr (.inr (0, 61))), some (.inr (.inr (0, 30))), some (.inr (.inr (0, 47))), some (.inr (.inr (0, 59))), some (.inl (Int32.ofNat i)), some (.inl 0), some (.inl v0)]) rfl ?_
    refine gz_aload_n (pc := 1581) dL_law__1581 rfl ?_
    refine gz_V (zy := mX12_thrown) (zc := 0) (d := d + 129) (pc := 1582) (t := 0) (o := 47) (ci := 12) (r := (RX12, TX12, 21)) [] rfl dL_law__1582 lkL_134 MvX12_thrown rfl (gzOk_of (by decide)) rfl rfl rfl (Or.inr rfl) (fun h => h) (by exact Nat.le_of_ble_eq_true rfl) ?_
    refine gz_useI (d := d + 129) (c_X12_thrown (d := d + 129) rfl) ?_
    dsimp only
    rw [hth]
    refine gz_iload (pc := 1585) dL_law__1585 rfl ?_
    refine gz_ic_eq (pc := 1587) (tgt := 1592) dL_law__1587 (by decide) (fun _ => ?_) (fun c => absurd rfl c)
    refine gz_iload (pc := 1592) dL_law__1592 rfl ?_
    refine gz_if_ne (pc := 1594) (tgt := 1609) dL_law__1594 (by decide) (fun c => absurd rfl c) (fun _ => ?_)
    refine gz_aload_n (pc := 1597) dL_law__1597 rfl ?_
    refine gz_iconst (pc := 1598) dL_law__1598 (v := 0) (by decide) ?_
    refine gz_lald (N := 1) (pc := 1599) dL_law__1599 (gzOk_of (by decide)) rfl (gz_vpd (by decide)) ?_
    rw [show J2 0 59 (0 : Int32).toNatClampNeg = gzCvI v0 from hj.trans gz_uj_s0]
    refine gz_iload (pc := 1600) dL_law__1600 rfl ?_
    refine gz_i2l (pc := 1602) dL_law__1602 ?_
    refine gz_lcmp (pc := 1603) dL_law__1603 ?_
    first | rw [show lg_cmp (gzCvI v0) v0.toInt64 = 0 from gz_cmp_self] | rw [gz_cmp_self]
    refine gz_if_eq (pc := 1604) (tgt := 1609) dL_law__1604 (by decide) (fun _ => ?_) (fun c => absurd rfl c)
    refine gz_goto (pc := 1609) (tgt := 2739) dL_law__1609 (by decide) ?_
    exact K _ _ _ _ _ hR (by omega) (by omega)
  | error E =>
    rintro _ _ ⟨kk, hk, rfl, rfl⟩
    obtain ⟨v, I2, J2, hm, ⟨k2, hk2, hth⟩, hj, hR⟩ := hM J
    have ekk : k2 = kk := gzHs_inj (by decide) hk2 hk
    subst ekk
    have hkl : k2 < 2 ^ 20 := gzHs_lt hk (by decide)
    show gzX g 512 (d + 130) mLaw 1573 [some (.inr (.inr (0, 61))), some (.inr (.inr (0, 30))), some (.inr (.inr (0, 47))), some (.inr (.inr (0, 59))), some (.inl (Int32.ofNat i)), none, none] [.inl (Int32.ofNat (k2 + 1))] (gzN, gzR0, I1, J) (z + 1) Q
    refine gz_istore (pc := 1573) dL_law__1573 (by decide) rfl (loc2 := [some (.inr (.inr (0, 61))), some (.inr (.inr (0, 30))), some (.inr (.inr (0, 47))), some (.inr (.inr (0, 59))), some (.inl (Int32.ofNat i)), some (.inl (Int32.ofNat (k2 + 1))), none]) rfl ?_
    refine gz_aload_n (pc := 1575) dL_law__1575 rfl ?_
    refine gz_V (zy := mX12_ask) (zc := 0) (d := d + 129) (pc := 1576) (t := 0) (o := 47) (ci := 12) (r := (RX12, TX12, 21)) [] rfl dL_law__1576 lkL_231 MvX12_ask rfl (gzOk_of (by decide)) rfl rfl rfl (Or.inr rfl) (fun h => h) (by exact Nat.le_of_ble_eq_true rfl) ?_
    refine gz_useI (d := d + 129) (c_X12_ask (d := d + 127) hm) ?_
    refine gz_istore (pc := 1579) dL_law__1579 (by decide) rfl (loc2 := [some (.inr (.inr (0, 61))), some (.inr (.inr (0, 30))), some (.inr (.inr (0, 47))), some (.inr (.inr (0, 59))), some (.inl (Int32.ofNat i)), some (.inl (Int32.ofNat (k2 + 1))), some (.inl v)]) rfl ?_
    refine gz_aload_n (pc := 1581) dL_law__1581 rfl ?_
    refine gz_V (zy := mX12_thrown) (zc := 0) (d := d + 129) (pc := 1582) (t := 0) (o := 47) (ci := 12) (r := (RX12, TX12, 21)) [] rfl dL_law__1582 lkL_134 MvX12_thrown rfl (gzOk_of (by decide)) rfl rfl rfl (Or.inr rfl) (fun h => h) (by exact Nat.le_of_ble_eq_true rfl) ?_
    refine gz_useI (d := d + 129) (c_X12_thrown (d := d + 129) rfl) ?_
    dsimp only
    rw [hth]
    refine gz_iload (pc := 1585) dL_law__1585 rfl ?_
    refine gz_ic_eq (pc := 1587) (tgt := 1592) dL_law__1587 (by decide) (fun _ => ?_) (fun c => absurd rfl c)
    refine gz_iload (pc := 1592) dL_law__1592 rfl ?_
    refine gz_if_ne (pc := 1594) (tgt := 1609) dL_law__1594 (by decide) (fun _ => ?_) (fun c => absurd c (gzHs_ne hkl))
    refine gz_goto (pc := 1609) (tgt := 2739) dL_law__1609 (by decide) ?_
    exact K _ _ _ _ _ hR (by omega) (by omega)
set_option maxRecDepth 20000 in
theorem b_29 {g : gzG} {d i z : Nat} {I : gzIT} {J : gzJT} {Q : gzO → gzS → Prop} (hi : i + 6 ≤ g.2.2.2.2.2 1 61) (hz : z + 1 ≤ 512) (h : gzR I I) (K : ∀ (l5 l6 : Option gzV) (I2 : gzIT) (J2 : gzJT) (z2 : Nat), gzR I2 I2 → z ≤ z2 → z2 ≤ z + 1 → gzX g 512 (d + 130) mLaw 2739 [some (.inr (.inr (0, 61))), some (.inr (.inr (0, 30))), some (.inr (.inr (0, 47))), some (.inr (.inr (0, 59))), some (.inl (Int32.ofNat i)), l5, l6] [] (gzN, gzR0, I2, J2) z2 Q) :
    gzX g 512 (d + 130) mLaw 1612 [some (.inr (.inr (0, 61))), some (.inr (.inr (0, 30))), some (.inr (.inr (0, 47))), some (.inr (.inr (0, 59))), some (.inl (Int32.ofNat i)), none, none] [] (gzN, gzR0, I, J) z Q := by
  obtain ⟨v, I2, J2, hf, hm, hR⟩ := L_rota (J := J) h
  refine gz_aload_n (pc := 1612) dL_law__1612 rfl ?_
  refine gz_V (zy := mX11_rota) (zc := 0) (d := d + 129) (pc := 1613) (t := 0) (o := 30) (ci := 11) (r := (RX11, TX11, 13)) [] rfl dL_law__1613 lkL_232 MvX11_rota rfl (gzOk_of (by decide)) rfl rfl rfl (Or.inr rfl) (fun h => h) (by exact Nat.le_of_ble_eq_true rfl) ?_
  refine gz_useI (d := d + 129) (c_X11_rota (d := d + 126) hf) ?_
  refine gz_aload_n (pc := 1616) dL_law__1616 rfl ?_
  refine gz_V (zy := mX12_rota) (zc := 0) (d := d + 129) (pc := 1617) (t := 0) (o := 47) (ci := 12) (r := (RX12, TX12, 21)) [] rfl dL_law__1617 lkL_235 MvX12_rota rfl (gzOk_of (by decide)) rfl rfl rfl (Or.inr rfl) (fun h => h) (by exact Nat.le_of_ble_eq_true rfl) ?_
  refine gz_useI (d := d + 129) (c_X12_rota (d := d + 125) hm) ?_
  refine gz_ic_eq (pc := 1620) (tgt := 2739) dL_law__1620 (by decide) (fun _ => ?_) (fun c => absurd rfl c)
  exact K _ _ _ _ _ hR (Nat.le_refl _) (by omega)
set_option maxRecDepth 20000 in
theorem b_30 {g : gzG} {d i z : Nat} {I : gzIT} {J : gzJT} {Q : gzO → gzS → Prop} (hi : i + 6 ≤ g.2.2.2.2.2 1 61) (hz : z + 1 ≤ 512) (h : gzR I I) (K : ∀ (l5 l6 : Option gzV) (I2 : gzIT) (J2 : gzJT) (z2 : Nat), gzR I2 I2 → z ≤ z2 → z2 ≤ z + 1 → gzX g 512 (d + 130) mLaw 2739 [some (.inr (.inr (0, 61))), some (.inr (.inr (0, 30))), some (.inr (.inr (0, 47))), some (.inr (.inr (0, 59))), some (.inl (Int32.ofNat i)), l5, l6] [] (gzN, gzR0, I2, J2) z2 Q) :
    gzX g 512 (d + 130) mLaw 1625 [some (.inr (.inr (0, 61))), some (.inr (.inr (0, 30))), some (.inr (.inr (0, 47))), some (.inr (.inr (0, 59))), some (.inl (Int32.ofNat i)), none, none] [] (gzN, gzR0, I, J) z Q := by
  obtain ⟨e, I1, hf, hE, hM⟩ := L_steps (J := J) (gzXs g (i + 1)) (gzXs g (i + 2)) h
  refine gz_aload_n (pc := 1625) dL_law__1625 rfl ?_
  refine gz_aload_n (pc := 1626) dL_law__1626 rfl ?_
  refine gz_iload (pc := 1627) dL_law__1627 rfl ?_
  refine gz_iconst (pc := 1629) dL_law__1629 (v := 1) (by decide) ?_
  refine gz_iadd (pc := 1630) dL_law__1630 ?_
  refine gz_sld (j := i + 1) (pc := 1631) dL_law__1631 (Int32.ofNat_add i 1).symm (by omega) ?_
  refine gz_aload_n (pc := 1632) dL_law__1632 rfl ?_
  refine gz_iload (pc := 1633) dL_law__1633 rfl ?_
  refine gz_iconst (pc := 1635) dL_law__1635 (v := 2) (by decide) ?_
  refine gz_iadd (pc := 1636) dL_law__1636 ?_
  refine gz_sld (j := i + 2) (pc := 1637) dL_law__1637 (Int32.ofNat_add i 2).symm (by omega) ?_
  refine gz_aload_n (pc := 1638) dL_law__1638 rfl ?_
  refine gz_SH (zy := mL_steps) (hh := hL_steps) (zc := 1) (d := d + 129) (pc := 1639) [.inr (.inr (0, 30)), .inl (gzXs g (i + 1)), .inl (gzXs g (i + 2)), .inr (.inr (0, 59))] rfl dL_law__1639 lhL_steps MhL_steps rfl (Or.inr rfl) (fun _ => by omega) (by exact Nat.le_of_ble_eq_true rfl) ?_
  refine gzCh.mono (h_L_steps (d := d + 68) hf hE) ?_
  cases e with
  | ok v0 =>
    rintro _ _ ⟨rfl, rfl⟩
    obtain ⟨v, I2, J2, hm, hs, hj, hR⟩ := hM (gz_uj J 0 59 0 (gzCvI v0))
    obtain ⟨rfl, hth⟩ := hs
    show gzX g 512 (d + 130) mLaw 1642 [some (.inr (.inr (0, 61))), some (.inr (.inr (0, 30))), some (.inr (.inr (0, 47))), some (.inr (.inr (0, 59))), some (.inl (Int32.ofNat i)), none, none] [.inl 0] (gzN, gzR0, I1, gz_uj J 0 59 0 (gzCvI v0)) (z + 1) Q
    refine gz_istore (pc := 1642) dL_law__1642 (by decide) rfl (loc2 := [some (.inr (.inr (0, 61))), some (.inr (.inr (0, 30))), some (.inr (.inr (0, 47))), some (.inr (.inr (0, 59))), some (.inl (Int32.ofNat i)), some (.inl 0), none]) rfl ?_
    refine gz_aload_n (pc := 1644) dL_law__1644 rfl ?_
    refine gz_aload_n (pc := 1645) dL_law__1645 rfl ?_
    refine gz_iload (pc := 1646) dL_law__1646 rfl ?_
    refine gz_iconst (pc := 1648) dL_law__1648 (v := 1) (by decide) ?_
    refine gz_iadd (pc := 1649) dL_law__1649 ?_
    refine gz_sld (j := i + 1) (pc := 1650) dL_law__1650 (Int32.ofNat_add i 1).symm (by omega) ?_
    refine gz_aload_n (pc := 1651) dL_law__1651 rfl ?_
    refine gz_iload (pc := 1652) dL_law__1652 rfl ?_
    refine gz_iconst (pc := 1654) dL_law__1654 (v := 2) (by decide) ?_
    refine gz_iadd (pc := 1655) dL_law__1655 ?_
    refine gz_sld (j := i + 2) (pc := 1656) dL_law__1656 (Int32.ofNat_add i 2).symm (by omega) ?_
    refine gz_V (zy := mX12_steps) (zc := 0) (d := d + 129) (pc := 1657) (t := 0) (o := 47) (ci := 12) (r := (RX12, TX12, 21)) [.inl (gzXs g (i + 1)), .inl (gzXs g (i + 2))] rfl dL_law__1657 lkL_238 MvX12_steps rfl (gzOk_of (by decide)) rfl rfl rfl (Or.inr rfl) (fun h => h) (by exact Nat.le_of_ble_eq_true rfl) ?_
    refine gz_useI (d := d + 129) (c_X12_steps (d := d + 124) hm) ?_
    refine gz_istore (pc := 1660) dL_law__1660 (by decide) rfl (loc2 := [some (.inr (.inr (0, 61))), some (.inr (.inr (0, 30))), some (.inr (.inr (0, 47))), some (.inr (.inr (0, 59))), some (.inl (Int32.ofNat i)), some (.inl 0), some (.inl v0)]) rfl ?_
    refine gz_aload_n (pc := 1662) dL_law__1662 rfl ?_
    refine gz_V (zy := mX12_thrown) (zc := 0) (d := d + 129) (pc := 1663) (t := 0) (o := 47) (ci := 12) (r := (RX12, TX12, 21)) [] rfl dL_law__1663 lkL_134 MvX12_thrown rfl (gzOk_of (by decide)) rfl rfl rfl (Or.inr rfl) (fun h => h) (by exact Nat.le_of_ble_eq_true rfl) ?_
    refine gz_useI (d := d + 129) (c_X12_thrown (d := d + 129) rfl) ?_
    dsimp only
    rw [hth]
    refine gz_iload (pc := 1666) dL_law__1666 rfl ?_
    refine gz_ic_eq (pc := 1668) (tgt := 1673) dL_law__1668 (by decide) (fun _ => ?_) (fun c => absurd rfl c)
    refine gz_iload (pc := 1673) dL_law__1673 rfl ?_
    refine gz_if_ne (pc := 1675) (tgt := 1690) dL_law__1675 (by decide) (fun c => absurd rfl c) (fun _ => ?_)
    refine gz_aload_n (pc := 1678) dL_law__1678 rfl ?_
    refine gz_iconst (pc := 1679) dL_law__1679 (v := 0) (by decide) ?_
    refine gz_lald (N := 1) (pc := 1680) dL_law__1680 (gzOk_of (by decide)) rfl (gz_vpd (by decide)) ?_
    rw [show J2 0 59 (0 : Int32).toNatClampNeg = gzCvI v0 from hj.trans gz_uj_s0]
    refine gz_iload (pc := 1681) dL_law__1681 rfl ?_
    refine gz_i2l (pc := 1683) dL_law__1683 ?_
    refine gz_lcmp (pc := 1684) dL_law__1684 ?_
    first | rw [show lg_cmp (gzCvI v0) v0.toInt64 = 0 from gz_cmp_self] | rw [gz_cmp_self]
    refine gz_if_eq (pc := 1685) (tgt := 1690) dL_law__1685 (by decide) (fun _ => ?_) (fun c => absurd rfl c)
    refine gz_goto (pc := 1690) (tgt := 2739) dL_law__1690 (by decide) ?_
    exact K _ _ _ _ _ hR (by omega) (by omega)
  | error E =>
    rintro _ _ ⟨kk, hk, rfl, rfl⟩
    obtain ⟨v, I2, J2, hm, ⟨k2, hk2, hth⟩, hj, hR⟩ := hM J
    have ekk : k2 = kk := gzHs_inj (by decide) hk2 hk
    subst ekk
    have hkl : k2 < 2 ^ 20 := gzHs_lt hk (by decide)
    show gzX g 512 (d + 130) mLaw 1642 [some (.inr (.inr (0, 61))), some (.inr (.inr (0, 30))), some (.inr (.inr (0, 47))), some (.inr (.inr (0, 59))), some (.inl (Int32.ofNat i)), none, none] [.inl (Int32.ofNat (k2 + 1))] (gzN, gzR0, I1, J) (z + 1) Q
    refine gz_istore (pc := 1642) dL_law__1642 (by decide) rfl (loc2 := [some (.inr (.inr (0, 61))), some (.inr (.inr (0, 30))), some (.inr (.inr (0, 47))), some (.inr (.inr (0, 59))), some (.inl (Int32.ofNat i)), some (.inl (Int32.ofNat (k2 + 1))), none]) rfl ?_
    refine gz_aload_n (pc := 1644) dL_law__1644 rfl ?_
    refine gz_aload_n (pc := 1645) dL_law__1645 rfl ?_
    refine gz_iload (pc := 1646) dL_law__1646 rfl ?_
    refine gz_iconst (pc := 1648) dL_law__1648 (v := 1) (by decide) ?_
    refine gz_iadd (pc := 1649) dL_law__1649 ?_
    refine gz_sld (j := i + 1) (pc := 1650) dL_law__1650 (Int32.ofNat_add i 1).symm (by omega) ?_
    refine gz_aload_n (pc := 1651) dL_law__1651 rfl ?_
    refine gz_iload (pc := 1652) dL_law__1652 rfl ?_
    refine gz_iconst (pc := 1654) dL_law__1654 (v := 2) (by decide) ?_
    refine gz_iadd (pc := 1655) dL_law__1655 ?_
    refine gz_sld (j := i + 2) (pc := 1656) dL_law__1656 (Int32.ofNat_add i 2).symm (by omega) ?_
    refine gz_V (zy := mX12_steps) (zc := 0) (d := d + 129) (pc := 1657) (t := 0) (o := 47) (ci := 12) (r := (RX12, TX12, 21)) [.inl (gzXs g (i + 1)), .inl (gzXs g (i + 2))] rfl dL_law__1657 lkL_238 MvX12_steps rfl (gzOk_of (by decide)) rfl rfl rfl (Or.inr rfl) (fun h => h) (by exact Nat.le_of_ble_eq_true rfl) ?_
    refine gz_useI (d := d + 129) (c_X12_steps (d := d + 124) hm) ?_
    refine gz_istore (pc := 1660) dL_law__1660 (by decide) rfl (loc2 := [some (.inr (.inr (0, 61))), some (.inr (.inr (0, 30))), some (.inr (.inr (0, 47))), some (.inr (.inr (0, 59))), some (.inl (Int32.ofNat i)), some (.inl (Int32.ofNat (k2 + 1))), some (.inl v)]) rfl ?_
    refine gz_aload_n (pc := 1662) dL_law__1662 rfl ?_
    refine gz_V (zy := mX12_thrown) (zc := 0) (d := d + 129) (pc := 1663) (t := 0) (o := 47) (ci := 12) (r := (RX12, TX12, 21)) [] rfl dL_law__1663 lkL_134 MvX12_thrown rfl (gzOk_of (by decide)) rfl rfl rfl (Or.inr rfl) (fun h => h) (by exact Nat.le_of_ble_eq_true rfl) ?_
    refine gz_useI (d := d + 129) (c_X12_thrown (d := d + 129) rfl) ?_
    dsimp only
    rw [hth]
    refine gz_iload (pc := 1666) dL_law__1666 rfl ?_
    refine gz_ic_eq (pc := 1668) (tgt := 1673) dL_law__1668 (by decide) (fun _ => ?_) (fun c => absurd rfl c)
    refine gz_iload (pc := 1673) dL_law__1673 rfl ?_
    refine gz_if_ne (pc := 1675) (tgt := 1690) dL_law__1675 (by decide) (fun _ => ?_) (fun c => absurd c (gzHs_ne hkl))
    refine gz_goto (pc := 1690) (tgt := 2739) dL_law__1690 (by decide) ?_
    exact K _ _ _ _ _ hR (by omega) (by omega)
set_option maxRecDepth 20000 in
theorem b_31 {g : gzG} {d i z : Nat} {I : gzIT} {J : gzJT} {Q : gzO → gzS → Prop} (hi : i + 6 ≤ g.2.2.2.2.2 1 61) (hz : z + 1 ≤ 512) (h : gzR I I) (K : ∀ (l5 l6 : Option gzV) (I2 : gzIT) (J2 : gzJT) (z2 : Nat), gzR I2 I2 → z ≤ z2 → z2 ≤ z + 1 → gzX g 512 (d + 130) mLaw 2739 [some (.inr (.inr (0, 61))), some (.inr (.inr (0, 30))), some (.inr (.inr (0, 47))), some (.inr (.inr (0, 59))), some (.inl (Int32.ofNat i)), l5, l6] [] (gzN, gzR0, I2, J2) z2 Q) :
    gzX g 512 (d + 130) mLaw 1693 [some (.inr (.inr (0, 61))), some (.inr (.inr (0, 30))), some (.inr (.inr (0, 47))), some (.inr (.inr (0, 59))), some (.inl (Int32.ofNat i)), none, none] [] (gzN, gzR0, I, J) z Q := by
  obtain ⟨e, I1, hf, hE, hM⟩ := L_ring (J := J) (gzXs g (i + 1)) h
  refine gz_aload_n (pc := 1693) dL_law__1693 rfl ?_
  refine gz_aload_n (pc := 1694) dL_law__1694 rfl ?_
  refine gz_iload (pc := 1695) dL_law__1695 rfl ?_
  refine gz_iconst (pc := 1697) dL_law__1697 (v := 1) (by decide) ?_
  refine gz_iadd (pc := 1698) dL_law__1698 ?_
  refine gz_sld (j := i + 1) (pc := 1699) dL_law__1699 (Int32.ofNat_add i 1).symm (by omega) ?_
  refine gz_aload_n (pc := 1700) dL_law__1700 rfl ?_
  refine gz_SH (zy := mL_ring) (hh := hL_ring) (zc := 1) (d := d + 129) (pc := 1701) [.inr (.inr (0, 30)), .inl (gzXs g (i + 1)), .inr (.inr (0, 59))] rfl dL_law__1701 lhL_ring MhL_ring rfl (Or.inr rfl) (fun _ => by omega) (by exact Nat.le_of_ble_eq_true rfl) ?_
  refine gzCh.mono (h_L_ring (d := d + 68) hf hE) ?_
  cases e with
  | ok v0 =>
    rintro _ _ ⟨rfl, rfl⟩
    obtain ⟨v, I2, J2, hm, hs, hj, hR⟩ := hM (gz_uj J 0 59 0 (gzCvZ v0))
    obtain ⟨rfl, hth⟩ := hs
    show gzX g 512 (d + 130) mLaw 1704 [some (.inr (.inr (0, 61))), some (.inr (.inr (0, 30))), some (.inr (.inr (0, 47))), some (.inr (.inr (0, 59))), some (.inl (Int32.ofNat i)), none, none] [.inl 0] (gzN, gzR0, I1, gz_uj J 0 59 0 (gzCvZ v0)) (z + 1) Q
    refine gz_istore (pc := 1704) dL_law__1704 (by decide) rfl (loc2 := [some (.inr (.inr (0, 61))), some (.inr (.inr (0, 30))), some (.inr (.inr (0, 47))), some (.inr (.inr (0, 59))), some (.inl (Int32.ofNat i)), some (.inl 0), none]) rfl ?_
    refine gz_aload_n (pc := 1706) dL_law__1706 rfl ?_
    refine gz_aload_n (pc := 1707) dL_law__1707 rfl ?_
    refine gz_iload (pc := 1708) dL_law__1708 rfl ?_
    refine gz_iconst (pc := 1710) dL_law__1710 (v := 1) (by decide) ?_
    refine gz_iadd (pc := 1711) dL_law__1711 ?_
    refine gz_sld (j := i + 1) (pc := 1712) dL_law__1712 (Int32.ofNat_add i 1).symm (by omega) ?_
    refine gz_V (zy := mX12_ring) (zc := 0) (d := d + 129) (pc := 1713) (t := 0) (o := 47) (ci := 12) (r := (RX12, TX12, 21)) [.inl (gzXs g (i + 1))] rfl dL_law__1713 lkL_241 MvX12_ring rfl (gzOk_of (by decide)) rfl rfl rfl (Or.inr rfl) (fun h => h) (by exact Nat.le_of_ble_eq_true rfl) ?_
    refine gz_useI (d := d + 129) (c_X12_ring (d := d + 125) hm) ?_
    refine gz_istore (pc := 1716) dL_law__1716 (by decide) rfl (loc2 := [some (.inr (.inr (0, 61))), some (.inr (.inr (0, 30))), some (.inr (.inr (0, 47))), some (.inr (.inr (0, 59))), some (.inl (Int32.ofNat i)), some (.inl 0), some (.inl v0)]) rfl ?_
    refine gz_aload_n (pc := 1718) dL_law__1718 rfl ?_
    refine gz_V (zy := mX12_thrown) (zc := 0) (d := d + 129) (pc := 1719) (t := 0) (o := 47) (ci := 12) (r := (RX12, TX12, 21)) [] rfl dL_law__1719 lkL_134 MvX12_thrown rfl (gzOk_of (by decide)) rfl rfl rfl (Or.inr rfl) (fun h => h) (by exact Nat.le_of_ble_eq_true rfl) ?_
    refine gz_useI (d := d + 129) (c_X12_thrown (d := d + 129) rfl) ?_
    dsimp only
    rw [hth]
    refine gz_iload (pc := 1722) dL_law__1722 rfl ?_
    refine gz_ic_eq (pc := 1724) (tgt := 1729) dL_law__1724 (by decide) (fun _ => ?_) (fun c => absurd rfl c)
    refine gz_iload (pc := 1729) dL_law__1729 rfl ?_
    refine gz_if_ne (pc := 1731) (tgt := 1753) dL_law__1731 (by decide) (fun c => absurd rfl c) (fun _ => ?_)
    refine gz_aload_n (pc := 1734) dL_law__1734 rfl ?_
    refine gz_iconst (pc := 1735) dL_law__1735 (v := 0) (by decide) ?_
    refine gz_lald (N := 1) (pc := 1736) dL_law__1736 (gzOk_of (by decide)) rfl (gz_vpd (by decide)) ?_
    rw [show J2 0 59 (0 : Int32).toNatClampNeg = gzCvZ v0 from hj.trans gz_uj_s0]
    refine gz_iload (pc := 1737) dL_law__1737 rfl ?_
    refine gz_if_eq (pc := 1739) (tgt := 1746) dL_law__1739 (by decide) (fun hv => ?_) (fun hv => ?_)
    · rw [show gzCvZ v0 = 0 from if_pos hv]
      refine gz_lconst (pc := 1746) dL_law__1746 (v := 0) (by decide) ?_
      refine gz_lcmp (pc := 1747) dL_law__1747 ?_
      first | rw [show lg_cmp (gzCvI v0) v0.toInt64 = 0 from gz_cmp_self] | rw [gz_cmp_self]
      refine gz_if_eq (pc := 1748) (tgt := 1753) dL_law__1748 (by decide) (fun _ => ?_) (fun c => absurd rfl c)
      refine gz_goto (pc := 1753) (tgt := 2739) dL_law__1753 (by decide) ?_
      exact K _ _ _ _ _ hR (by omega) (by omega)
    · rw [show gzCvZ v0 = 1 from if_neg hv]
      refine gz_lconst (pc := 1742) dL_law__1742 (v := 1) (by decide) ?_
      refine gz_goto (pc := 1743) (tgt := 1747) dL_law__1743 (by decide) ?_
      refine gz_lcmp (pc := 1747) dL_law__1747 ?_
      first | rw [show lg_cmp (gzCvI v0) v0.toInt64 = 0 from gz_cmp_self] | rw [gz_cmp_self]
      refine gz_if_eq (pc := 1748) (tgt := 1753) dL_law__1748 (by decide) (fun _ => ?_) (fun c => absurd rfl c)
      refine gz_goto (pc := 1753) (tgt := 2739) dL_law__1753 (by decide) ?_
      exact K _ _ _ _ _ hR (by omega) (by omega)
  | error E =>
    rintro _ _ ⟨kk, hk, rfl, rfl⟩
    obtain ⟨v, I2, J2, hm, ⟨k2, hk2, hth⟩, hj, hR⟩ := hM J
    have ekk : k2 = kk := gzHs_inj (by decide) hk2 hk
    subst ekk
    have hkl : k2 < 2 ^ 20 := gzHs_lt hk (by decide)
    show gzX g 512 (d + 130) mLaw 1704 [some (.inr (.inr (0, 61))), some (.inr (.inr (0, 30))), some (.inr (.inr (0, 47))), some (.inr (.inr (0, 59))), some (.inl (Int32.ofNat i)), none, none] [.inl (Int32.ofNat (k2 + 1))] (gzN, gzR0, I1, J) (z + 1) Q
    refine gz_istore (pc := 1704) dL_law__1704 (by decide) rfl (loc2 := [some (.inr (.inr (0, 61))), some (.inr (.inr (0, 30))), some (.inr (.inr (0, 47))), some (.inr (.inr (0, 59))), some (.inl (Int32.ofNat i)), some (.inl (Int32.ofNat (k2 + 1))), none]) rfl ?_
    refine gz_aload_n (pc := 1706) dL_law__1706 rfl ?_
    refine gz_aload_n (pc := 1707) dL_law__1707 rfl ?_
    refine gz_iload (pc := 1708) dL_law__1708 rfl ?_
    refine gz_iconst (pc := 1710) dL_law__1710 (v := 1) (by decide) ?_
    refine gz_iadd (pc := 1711) dL_law__1711 ?_
    refine gz_sld (j := i + 1) (pc := 1712) dL_law__1712 (Int32.ofNat_add i 1).symm (by omega) ?_
    refine gz_V (zy := mX12_ring) (zc := 0) (d := d + 129) (pc := 1713) (t := 0) (o := 47) (ci := 12) (r := (RX12, TX12, 21)) [.inl (gzXs g (i + 1))] rfl dL_law__1713 lkL_241 MvX12_ring rfl (gzOk_of (by decide)) rfl rfl rfl (Or.inr rfl) (fun h => h) (by exact Nat.le_of_ble_eq_true rfl) ?_
    refine gz_useI (d := d + 129) (c_X12_ring (d := d + 125) hm) ?_
    refine gz_istore (pc := 1716) dL_law__1716 (by decide) rfl (loc2 := [some (.inr (.inr (0, 61))), some (.inr (.inr (0, 30))), some (.inr (.inr (0, 47))), some (.inr (.inr (0, 59))), some (.inl (Int32.ofNat i)), some (.inl (Int32.ofNat (k2 + 1))), some (.inl v)]) rfl ?_
    refine gz_aload_n (pc := 1718) dL_law__1718 rfl ?_
    refine gz_V (zy := mX12_thrown) (zc := 0) (d := d + 129) (pc := 1719) (t := 0) (o := 47) (ci := 12) (r := (RX12, TX12, 21)) [] rfl dL_law__1719 lkL_134 MvX12_thrown rfl (gzOk_of (by decide)) rfl rfl rfl (Or.inr rfl) (fun h => h) (by exact Nat.le_of_ble_eq_true rfl) ?_
    refine gz_useI (d := d + 129) (c_X12_thrown (d := d + 129) rfl) ?_
    dsimp only
    rw [hth]
    refine gz_iload (pc := 1722) dL_law__1722 rfl ?_
    refine gz_ic_eq (pc := 1724) (tgt := 1729) dL_law__1724 (by decide) (fun _ => ?_) (fun c => absurd rfl c)
    refine gz_iload (pc := 1729) dL_law__1729 rfl ?_
    refine gz_if_ne (pc := 1731) (tgt := 1753) dL_law__1731 (by decide) (fun _ => ?_) (fun c => absurd c (gzHs_ne hkl))
    refine gz_goto (pc := 1753) (tgt := 2739) dL_law__1753 (by decide) ?_
    exact K _ _ _ _ _ hR (by omega) (by omega)
set_option maxRecDepth 20000 in
theorem b_32 {g : gzG} {d i z : Nat} {I : gzIT} {J : gzJT} {Q : gzO → gzS → Prop} (hi : i + 6 ≤ g.2.2.2.2.2 1 61) (hz : z + 1 ≤ 512) (h : gzR I I) (K : ∀ (l5 l6 : Option gzV) (I2 : gzIT) (J2 : gzJT) (z2 : Nat), gzR I2 I2 → z ≤ z2 → z2 ≤ z + 1 → gzX g 512 (d + 130) mLaw 2739 [some (.inr (.inr (0, 61))), some (.inr (.inr (0, 30))), some (.inr (.inr (0, 47))), some (.inr (.inr (0, 59))), some (.inl (Int32.ofNat i)), l5, l6] [] (gzN, gzR0, I2, J2) z2 Q) :
    gzX g 512 (d + 130) mLaw 1756 [some (.inr (.inr (0, 61))), some (.inr (.inr (0, 30))), some (.inr (.inr (0, 47))), some (.inr (.inr (0, 59))), some (.inl (Int32.ofNat i)), none, none] [] (gzN, gzR0, I, J) z Q := by
  obtain ⟨v, I1, I2, J2, hf, hm, hR⟩ := L_feud (J := J) h
  refine gz_aload_n (pc := 1756) dL_law__1756 rfl ?_
  refine gz_V (zy := mX11_feud) (zc := 0) (d := d + 129) (pc := 1757) (t := 0) (o := 30) (ci := 11) (r := (RX11, TX11, 13)) [] rfl dL_law__1757 lkL_242 MvX11_feud rfl (gzOk_of (by decide)) rfl rfl rfl (Or.inr rfl) (fun h => h) (by exact Nat.le_of_ble_eq_true rfl) ?_
  refine gz_useI (d := d + 129) (c_X11_feud (d := d + 125) hf) ?_
  refine gz_aload_n (pc := 1760) dL_law__1760 rfl ?_
  refine gz_V (zy := mX12_feud) (zc := 0) (d := d + 129) (pc := 1761) (t := 0) (o := 47) (ci := 12) (r := (RX12, TX12, 21)) [] rfl dL_law__1761 lkL_245 MvX12_feud rfl (gzOk_of (by decide)) rfl rfl rfl (Or.inr rfl) (fun h => h) (by exact Nat.le_of_ble_eq_true rfl) ?_
  refine gz_useI (d := d + 129) (c_X12_feud (d := d + 123) hm) ?_
  refine gz_ic_eq (pc := 1764) (tgt := 2739) dL_law__1764 (by decide) (fun _ => ?_) (fun c => absurd rfl c)
  exact K _ _ _ _ _ hR (Nat.le_refl _) (by omega)
set_option maxRecDepth 20000 in
theorem b_33 {g : gzG} {d i z : Nat} {I : gzIT} {J : gzJT} {Q : gzO → gzS → Prop} (hi : i + 6 ≤ g.2.2.2.2.2 1 61) (hz : z + 1 ≤ 512) (h : gzR I I) (K : ∀ (l5 l6 : Option gzV) (I2 : gzIT) (J2 : gzJT) (z2 : Nat), gzR I2 I2 → z ≤ z2 → z2 ≤ z + 1 → gzX g 512 (d + 130) mLaw 2739 [some (.inr (.inr (0, 61))), some (.inr (.inr (0, 30))), some (.inr (.inr (0, 47))), some (.inr (.inr (0, 59))), some (.inl (Int32.ofNat i)), l5, l6] [] (gzN, gzR0, I2, J2) z2 Q) :
    gzX g 512 (d + 130) mLaw 1769 [some (.inr (.inr (0, 61))), some (.inr (.inr (0, 30))), some (.inr (.inr (0, 47))), some (.inr (.inr (0, 59))), some (.inl (Int32.ofNat i)), none, none] [] (gzN, gzR0, I, J) z Q := by
  obtain ⟨v, I1, I2, J2, hf, hm, hR⟩ := L_between (J := J) h
  refine gz_aload_n (pc := 1769) dL_law__1769 rfl ?_
  refine gz_V (zy := mX11_between) (zc := 0) (d := d + 129) (pc := 1770) (t := 0) (o := 30) (ci := 11) (r := (RX11, TX11, 13)) [] rfl dL_law__1770 lkL_246 MvX11_between rfl (gzOk_of (by decide)) rfl rfl rfl (Or.inr rfl) (fun h => h) (by exact Nat.le_of_ble_eq_true rfl) ?_
  refine gz_useI (d := d + 129) (c_X11_between (d := d + 126) hf) ?_
  refine gz_aload_n (pc := 1773) dL_law__1773 rfl ?_
  refine gz_V (zy := mX12_between) (zc := 0) (d := d + 129) (pc := 1774) (t := 0) (o := 47) (ci := 12) (r := (RX12, TX12, 21)) [] rfl dL_law__1774 lkL_249 MvX12_between rfl (gzOk_of (by decide)) rfl rfl rfl (Or.inr rfl) (fun h => h) (by exact Nat.le_of_ble_eq_true rfl) ?_
  refine gz_useI (d := d + 129) (c_X12_between (d := d + 123) hm) ?_
  refine gz_ic_eq (pc := 1777) (tgt := 2739) dL_law__1777 (by decide) (fun _ => ?_) (fun c => absurd rfl c)
  exact K _ _ _ _ _ hR (Nat.le_refl _) (by omega)
set_option maxRecDepth 20000 in
theorem b_34 {g : gzG} {d i z : Nat} {I : gzIT} {J : gzJT} {Q : gzO → gzS → Prop} (hi : i + 6 ≤ g.2.2.2.2.2 1 61) (hz : z + 1 ≤ 512) (h : gzR I I) (K : ∀ (l5 l6 : Option gzV) (I2 : gzIT) (J2 : gzJT) (z2 : Nat), gzR I2 I2 → z ≤ z2 → z2 ≤ z + 1 → gzX g 512 (d + 130) mLaw 2739 [some (.inr (.inr (0, 61))), some (.inr (.inr (0, 30))), some (.inr (.inr (0, 47))), some (.inr (.inr (0, 59))), some (.inl (Int32.ofNat i)), l5, l6] [] (gzN, gzR0, I2, J2) z2 Q) :
    gzX g 512 (d + 130) mLaw 1782 [some (.inr (.inr (0, 61))), some (.inr (.inr (0, 30))), some (.inr (.inr (0, 47))), some (.inr (.inr (0, 59))), some (.inl (Int32.ofNat i)), none, none] [] (gzN, gzR0, I, J) z Q := by
  obtain ⟨e, I1, hf, hE, hM⟩ := L_kisses (J := J) (gzXs g (i + 1)) h
  refine gz_aload_n (pc := 1782) dL_law__1782 rfl ?_
  refine gz_aload_n (pc := 1783) dL_law__1783 rfl ?_
  refine gz_iload (pc := 1784) dL_law__1784 rfl ?_
  refine gz_iconst (pc := 1786) dL_law__1786 (v := 1) (by decide) ?_
  refine gz_iadd (pc := 1787) dL_law__1787 ?_
  refine gz_sld (j := i + 1) (pc := 1788) dL_law__1788 (Int32.ofNat_add i 1).symm (by omega) ?_
  refine gz_aload_n (pc := 1789) dL_law__1789 rfl ?_
  refine gz_SH (zy := mL_kisses) (hh := hL_kisses) (zc := 1) (d := d + 129) (pc := 1790) [.inr (.inr (0, 30)), .inl (gzXs g (i + 1)), .inr (.inr (0, 59))] rfl dL_law__1790 lhL_kisses MhL_kisses rfl (Or.inr rfl) (fun _ => by omega) (by exact Nat.le_of_ble_eq_true rfl) ?_
  refine gzCh.mono (h_L_kisses (d := d + 68) hf hE) ?_
  cases e with
  | ok v0 =>
    rintro _ _ ⟨rfl, rfl⟩
    obtain ⟨v, I2, J2, hm, hs, hj, hR⟩ := hM (gz_uj J 0 59 0 (gzCvI v0))
    obtain ⟨rfl, hth⟩ := hs
    show gzX g 512 (d + 130) mLaw 1793 [some (.inr (.inr (0, 61))), some (.inr (.inr (0, 30))), some (.inr (.inr (0, 47))), some (.inr (.inr (0, 59))), some (.inl (Int32.ofNat i)), none, none] [.inl 0] (gzN, gzR0, I1, gz_uj J 0 59 0 (gzCvI v0)) (z + 1) Q
    refine gz_istore (pc := 1793) dL_law__1793 (by decide) rfl (loc2 := [some (.inr (.inr (0, 61))), some (.inr (.inr (0, 30))), some (.inr (.inr (0, 47))), some (.inr (.inr (0, 59))), some (.inl (Int32.ofNat i)), some (.inl 0), none]) rfl ?_
    refine gz_aload_n (pc := 1795) dL_law__1795 rfl ?_
    refine gz_aload_n (pc := 1796) dL_law__1796 rfl ?_
    refine gz_iload (pc := 1797) dL_law__1797 rfl ?_
    refine gz_iconst (pc := 1799) dL_law__1799 (v := 1) (by decide) ?_
    refine gz_iadd (pc := 1800) dL_law__1800 ?_
    refine gz_sld (j := i + 1) (pc := 1801) dL_law__1801 (Int32.ofNat_add i 1).symm (by omega) ?_
    refine gz_V (zy := mX12_kisses) (zc := 0) (d := d + 129) (pc := 1802) (t := 0) (o := 47) (ci := 12) (r := (RX12, TX12, 21)) [.inl (gzXs g (i + 1))] rfl dL_law__1802 lkL_252 MvX12_kisses rfl (gzOk_of (by decide)) rfl rfl rfl (Or.inr rfl) (fun h => h) (by exact Nat.le_of_ble_eq_true rfl) ?_
    refine gz_useI (d := d + 129) (c_X12_kisses (d := d + 123) hm) ?_
    refine gz_istore (pc := 1805) dL_law__1805 (by decide) rfl (loc2 := [some (.inr (.inr (0, 61))), some (.inr (.inr (0, 30))), some (.inr (.inr (0, 47))), some (.inr (.inr (0, 59))), some (.inl (Int32.ofNat i)), some (.inl 0), some (.inl v0)]) rfl ?_
    refine gz_aload_n (pc := 1807) dL_law__1807 rfl ?_
    refine gz_V (zy := mX12_thrown) (zc := 0) (d := d + 129) (pc := 1808) (t := 0) (o := 47) (ci := 12) (r := (RX12, TX12, 21)) [] rfl dL_law__1808 lkL_134 MvX12_thrown rfl (gzOk_of (by decide)) rfl rfl rfl (Or.inr rfl) (fun h => h) (by exact Nat.le_of_ble_eq_true rfl) ?_
    refine gz_useI (d := d + 129) (c_X12_thrown (d := d + 129) rfl) ?_
    dsimp only
    rw [hth]
    refine gz_iload (pc := 1811) dL_law__1811 rfl ?_
    refine gz_ic_eq (pc := 1813) (tgt := 1818) dL_law__1813 (by decide) (fun _ => ?_) (fun c => absurd rfl c)
    refine gz_iload (pc := 1818) dL_law__1818 rfl ?_
    refine gz_if_ne (pc := 1820) (tgt := 1835) dL_law__1820 (by decide) (fun c => absurd rfl c) (fun _ => ?_)
    refine gz_aload_n (pc := 1823) dL_law__1823 rfl ?_
    refine gz_iconst (pc := 1824) dL_law__1824 (v := 0) (by decide) ?_
    refine gz_lald (N := 1) (pc := 1825) dL_law__1825 (gzOk_of (by decide)) rfl (gz_vpd (by decide)) ?_
    rw [show J2 0 59 (0 : Int32).toNatClampNeg = gzCvI v0 from hj.trans gz_uj_s0]
    refine gz_iload (pc := 1826) dL_law__1826 rfl ?_
    refine gz_i2l (pc := 1828) dL_law__1828 ?_
    refine gz_lcmp (pc := 1829) dL_law__1829 ?_
    first | rw [show lg_cmp (gzCvI v0) v0.toInt64 = 0 from gz_cmp_self] | rw [gz_cmp_self]
    refine gz_if_eq (pc := 1830) (tgt := 1835) dL_law__1830 (by decide) (fun _ => ?_) (fun c => absurd rfl c)
    refine gz_goto (pc := 1835) (tgt := 2739) dL_law__1835 (by decide) ?_
    exact K _ _ _ _ _ hR (by omega) (by omega)
  | error E =>
    rintro _ _ ⟨kk, hk, rfl, rfl⟩
    obtain ⟨v, I2, J2, hm, ⟨k2, hk2, hth⟩, hj, hR⟩ := hM J
    have ekk : k2 = kk := gzHs_inj (by decide) hk2 hk
    subst ekk
    have hkl : k2 < 2 ^ 20 := gzHs_lt hk (by decide)
    show gzX g 512 (d + 130) mLaw 1793 [some (.inr (.inr (0, 61))), some (.inr (.inr (0, 30))), some (.inr (.inr (0, 47))), some (.inr (.inr (0, 59))), some (.inl (Int32.ofNat i)), none, none] [.inl (Int32.ofNat (k2 + 1))] (gzN, gzR0, I1, J) (z + 1) Q
    refine gz_istore (pc := 1793) dL_law__1793 (by decide) rfl (loc2 := [some (.inr (.inr (0, 61))), some (.inr (.inr (0, 30))), some (.inr (.inr (0, 47))), some (.inr (.inr (0, 59))), some (.inl (Int32.ofNat i)), some (.inl (Int32.ofNat (k2 + 1))), none]) rfl ?_
    refine gz_aload_n (pc := 1795) dL_law__1795 rfl ?_
    refine gz_aload_n (pc := 1796) dL_law__1796 rfl ?_
    refine gz_iload (pc := 1797) dL_law__1797 rfl ?_
    refine gz_iconst (pc := 1799) dL_law__1799 (v := 1) (by decide) ?_
    refine gz_iadd (pc := 1800) dL_law__1800 ?_
    refine gz_sld (j := i + 1) (pc := 1801) dL_law__1801 (Int32.ofNat_add i 1).symm (by omega) ?_
    refine gz_V (zy := mX12_kisses) (zc := 0) (d := d + 129) (pc := 1802) (t := 0) (o := 47) (ci := 12) (r := (RX12, TX12, 21)) [.inl (gzXs g (i + 1))] rfl dL_law__1802 lkL_252 MvX12_kisses rfl (gzOk_of (by decide)) rfl rfl rfl (Or.inr rfl) (fun h => h) (by exact Nat.le_of_ble_eq_true rfl) ?_
    refine gz_useI (d := d + 129) (c_X12_kisses (d := d + 123) hm) ?_
    refine gz_istore (pc := 1805) dL_law__1805 (by decide) rfl (loc2 := [some (.inr (.inr (0, 61))), some (.inr (.inr (0, 30))), some (.inr (.inr (0, 47))), some (.inr (.inr (0, 59))), some (.inl (Int32.ofNat i)), some (.inl (Int32.ofNat (k2 + 1))), some (.inl v)]) rfl ?_
    refine gz_aload_n (pc := 1807) dL_law__1807 rfl ?_
    refine gz_V (zy := mX12_thrown) (zc := 0) (d := d + 129) (pc := 1808) (t := 0) (o := 47) (ci := 12) (r := (RX12, TX12, 21)) [] rfl dL_law__1808 lkL_134 MvX12_thrown rfl (gzOk_of (by decide)) rfl rfl rfl (Or.inr rfl) (fun h => h) (by exact Nat.le_of_ble_eq_true rfl) ?_
    refine gz_useI (d := d + 129) (c_X12_thrown (d := d + 129) rfl) ?_
    dsimp only
    rw [hth]
    refine gz_iload (pc := 1811) dL_law__1811 rfl ?_
    refine gz_ic_eq (pc := 1813) (tgt := 1818) dL_law__1813 (by decide) (fun _ => ?_) (fun c => absurd rfl c)
    refine gz_iload (pc := 1818) dL_law__1818 rfl ?_
    refine gz_if_ne (pc := 1820) (tgt := 1835) dL_law__1820 (by decide) (fun _ => ?_) (fun c => absurd c (gzHs_ne hkl))
    refine gz_goto (pc := 1835) (tgt := 2739) dL_law__1835 (by decide) ?_
    exact K _ _ _ _ _ hR (by omega) (by omega)
set_option maxRecDepth 20000 in
theorem b_35 {g : gzG} {d i z : Nat} {I : gzIT} {J : gzJT} {Q : gzO → gzS → Prop} (hi : i + 6 ≤ g.2.2.2.2.2 1 61) (hz : z + 1 ≤ 512) (h : gzR I I) (K : ∀ (l5 l6 : Option gzV) (I2 : gzIT) (J2 : gzJT) (z2 : Nat), gzR I2 I2 → z ≤ z2 → z2 ≤ z + 1 → gzX g 512 (d + 130) mLaw 2739 [some (.inr (.inr (0, 61))), some (.inr (.inr (0, 30))), some (.inr (.inr (0, 47))), some (.inr (.inr (0, 59))), some (.inl (Int32.ofNat i)), l5, l6] [] (gzN, gzR0, I2, J2) z2 Q) :
    gzX g 512 (d + 130) mLaw 1838 [some (.inr (.inr (0, 61))), some (.inr (.inr (0, 30))), some (.inr (.inr (0, 47))), some (.inr (.inr (0, 59))), some (.inl (Int32.ofNat i)), none, none] [] (gzN, gzR0, I, J) z Q := by
  obtain ⟨e, I1, hf, hE, hM⟩ := L_shares (J := J) (gzXs g (i + 1)) (gzXs g (i + 2)) h
  refine gz_aload_n (pc := 1838) dL_law__1838 rfl ?_
  refine gz_aload_n (pc := 1839) dL_law__1839 rfl ?_
  refine gz_iload (pc := 1840) dL_law__1840 rfl ?_
  refine gz_iconst (pc := 1842) dL_law__1842 (v := 1) (by decide) ?_
  refine gz_iadd (pc := 1843) dL_law__1843 ?_
  refine gz_sld (j := i + 1) (pc := 1844) dL_law__1844 (Int32.ofNat_add i 1).symm (by omega) ?_
  refine gz_aload_n (pc := 1845) dL_law__1845 rfl ?_
  refine gz_iload (pc := 1846) dL_law__1846 rfl ?_
  refine gz_iconst (pc := 1848) dL_law__1848 (v := 2) (by decide) ?_
  refine gz_iadd (pc := 1849) dL_law__1849 ?_
  refine gz_sld (j := i + 2) (pc := 1850) dL_law__1850 (Int32.ofNat_add i 2).symm (by omega) ?_
  refine gz_aload_n (pc := 1851) dL_law__1851 rfl ?_
  refine gz_SH (zy := mL_shares) (hh := hL_shares) (zc := 1) (d := d + 129) (pc := 1852) [.inr (.inr (0, 30)), .inl (gzXs g (i + 1)), .inl (gzXs g (i + 2)), .inr (.inr (0, 59))] rfl dL_law__1852 lhL_shares MhL_shares rfl (Or.inr rfl) (fun _ => by omega) (by exact Nat.le_of_ble_eq_true rfl) ?_
  refine gzCh.mono (h_L_shares (d := d + 68) hf hE) ?_
  cases e with
  | ok v0 =>
    rintro _ _ ⟨rfl, rfl⟩
    obtain ⟨v, I2, J2, hm, hs, hj, hR⟩ := hM (gz_uj J 0 59 0 (gzCvI v0))
    obtain ⟨rfl, hth⟩ := hs
    show gzX g 512 (d + 130) mLaw 1855 [some (.inr (.inr (0, 61))), some (.inr (.inr (0, 30))), some (.inr (.inr (0, 47))), some (.inr (.inr (0, 59))), some (.inl (Int32.ofNat i)), none, none] [.inl 0] (gzN, gzR0, I1, gz_uj J 0 59 0 (gzCvI v0)) (z + 1) Q
    refine gz_istore (pc := 1855) dL_law__1855 (by decide) rfl (loc2 := [some (.inr (.inr (0, 61))), some (.inr (.inr (0, 30))), some (.inr (.inr (0, 47))), some (.inr (.inr (0, 59))), some (.inl (Int32.ofNat i)), some (.inl 0), none]) rfl ?_
    refine gz_aload_n (pc := 1857) dL_law__1857 rfl ?_
    refine gz_aload_n (pc := 1858) dL_law__1858 rfl ?_
    refine gz_iload (pc := 1859) dL_law__1859 rfl ?_
    refine gz_iconst (pc := 1861) dL_law__1861 (v := 1) (by decide) ?_
    refine gz_iadd (pc := 1862) dL_law__1862 ?_
    refine gz_sld (j := i + 1) (pc := 1863) dL_law__1863 (Int32.ofNat_add i 1).symm (by omega) ?_
    refine gz_aload_n (pc := 1864) dL_law__1864 rfl ?_
    refine gz_iload (pc := 1865) dL_law__1865 rfl ?_
    refine gz_iconst (pc := 1867) dL_law__1867 (v := 2) (by decide) ?_
    refine gz_iadd (pc := 1868) dL_law__1868 ?_
    refine gz_sld (j := i + 2) (pc := 1869) dL_law__1869 (Int32.ofNat_add i 2).symm (by omega) ?_
    refine gz_V (zy := mX12_shares) (zc := 0) (d := d + 129) (pc := 1870) (t := 0) (o := 47) (ci := 12) (r := (RX12, TX12, 21)) [.inl (gzXs g (i + 1)), .inl (gzXs g (i + 2))] rfl dL_law__1870 lkL_255 MvX12_shares rfl (gzOk_of (by decide)) rfl rfl rfl (Or.inr rfl) (fun h => h) (by exact Nat.le_of_ble_eq_true rfl) ?_
    refine gz_useI (d := d + 129) (c_X12_shares (d := d + 127) hm) ?_
    refine gz_istore (pc := 1873) dL_law__1873 (by decide) rfl (loc2 := [some (.inr (.inr (0, 61))), some (.inr (.inr (0, 30))), some (.inr (.inr (0, 47))), some (.inr (.inr (0, 59))), some (.inl (Int32.ofNat i)), some (.inl 0), some (.inl v0)]) rfl ?_
    refine gz_aload_n (pc := 1875) dL_law__1875 rfl ?_
    refine gz_V (zy := mX12_thrown) (zc := 0) (d := d + 129) (pc := 1876) (t := 0) (o := 47) (ci := 12) (r := (RX12, TX12, 21)) [] rfl dL_law__1876 lkL_134 MvX12_thrown rfl (gzOk_of (by decide)) rfl rfl rfl (Or.inr rfl) (fun h => h) (by exact Nat.le_of_ble_eq_true rfl) ?_
    refine gz_useI (d := d + 129) (c_X12_thrown (d := d + 129) rfl) ?_
    dsimp only
    rw [hth]
    refine gz_iload (pc := 1879) dL_law__1879 rfl ?_
    refine gz_ic_eq (pc := 1881) (tgt := 1886) dL_law__1881 (by decide) (fun _ => ?_) (fun c => absurd rfl c)
    refine gz_iload (pc := 1886) dL_law__1886 rfl ?_
    refine gz_if_ne (pc := 1888) (tgt := 1903) dL_law__1888 (by decide) (fun c => absurd rfl c) (fun _ => ?_)
    refine gz_aload_n (pc := 1891) dL_law__1891 rfl ?_
    refine gz_iconst (pc := 1892) dL_law__1892 (v := 0) (by decide) ?_
    refine gz_lald (N := 1) (pc := 1893) dL_law__1893 (gzOk_of (by decide)) rfl (gz_vpd (by decide)) ?_
    rw [show J2 0 59 (0 : Int32).toNatClampNeg = gzCvI v0 from hj.trans gz_uj_s0]
    refine gz_iload (pc := 1894) dL_law__1894 rfl ?_
    refine gz_i2l (pc := 1896) dL_law__1896 ?_
    refine gz_lcmp (pc := 1897) dL_law__1897 ?_
    first | rw [show lg_cmp (gzCvI v0) v0.toInt64 = 0 from gz_cmp_self] | rw [gz_cmp_self]
    refine gz_if_eq (pc := 1898) (tgt := 1903) dL_law__1898 (by decide) (fun _ => ?_) (fun c => absurd rfl c)
    refine gz_goto (pc := 1903) (tgt := 2739) dL_law__1903 (by decide) ?_
    exact K _ _ _ _ _ hR (by omega) (by omega)
  | error E =>
    rintro _ _ ⟨kk, hk, rfl, rfl⟩
    obtain ⟨v, I2, J2, hm, ⟨k2, hk2, hth⟩, hj, hR⟩ := hM J
    have ekk : k2 = kk := gzHs_inj (by decide) hk2 hk
    subst ekk
    have hkl : k2 < 2 ^ 20 := gzHs_lt hk (by decide)
    show gzX g 512 (d + 130) mLaw 1855 [some (.inr (.inr (0, 61))), some (.inr (.inr (0, 30))), some (.inr (.inr (0, 47))), some (.inr (.inr (0, 59))), some (.inl (Int32.ofNat i)), none, none] [.inl (Int32.ofNat (k2 + 1))] (gzN, gzR0, I1, J) (z + 1) Q
    refine gz_istore (pc := 1855) dL_law__1855 (by decide) rfl (loc2 := [some (.inr (.inr (0, 61))), some (.inr (.inr (0, 30))), some (.inr (.inr (0, 47))), some (.inr (.inr (0, 59))), some (.inl (Int32.ofNat i)), some (.inl (Int32.ofNat (k2 + 1))), none]) rfl ?_
    refine gz_aload_n (pc := 1857) dL_law__1857 rfl ?_
    refine gz_aload_n (pc := 1858) dL_law__1858 rfl ?_
    refine gz_iload (pc := 1859) dL_law__1859 rfl ?_
    refine gz_iconst (pc := 1861) dL_law__1861 (v := 1) (by decide) ?_
    refine gz_iadd (pc := 1862) dL_law__1862 ?_
    refine gz_sld (j := i + 1) (pc := 1863) dL_law__1863 (Int32.ofNat_add i 1).symm (by omega) ?_
    refine gz_aload_n (pc := 1864) dL_law__1864 rfl ?_
    refine gz_iload (pc := 1865) dL_law__1865 rfl ?_
    refine gz_iconst (pc := 1867) dL_law__1867 (v := 2) (by decide) ?_
    refine gz_iadd (pc := 1868) dL_law__1868 ?_
    refine gz_sld (j := i + 2) (pc := 1869) dL_law__1869 (Int32.ofNat_add i 2).symm (by omega) ?_
    refine gz_V (zy := mX12_shares) (zc := 0) (d := d + 129) (pc := 1870) (t := 0) (o := 47) (ci := 12) (r := (RX12, TX12, 21)) [.inl (gzXs g (i + 1)), .inl (gzXs g (i + 2))] rfl dL_law__1870 lkL_255 MvX12_shares rfl (gzOk_of (by decide)) rfl rfl rfl (Or.inr rfl) (fun h => h) (by exact Nat.le_of_ble_eq_true rfl) ?_
    refine gz_useI (d := d + 129) (c_X12_shares (d := d + 127) hm) ?_
    refine gz_istore (pc := 1873) dL_law__1873 (by decide) rfl (loc2 := [some (.inr (.inr (0, 61))), some (.inr (.inr (0, 30))), some (.inr (.inr (0, 47))), some (.inr (.inr (0, 59))), some (.inl (Int32.ofNat i)), some (.inl (Int32.ofNat (k2 + 1))), some (.inl v)]) rfl ?_
    refine gz_aload_n (pc := 1875) dL_law__1875 rfl ?_
    refine gz_V (zy := mX12_thrown) (zc := 0) (d := d + 129) (pc := 1876) (t := 0) (o := 47) (ci := 12) (r := (RX12, TX12, 21)) [] rfl dL_law__1876 lkL_134 MvX12_thrown rfl (gzOk_of (by decide)) rfl rfl rfl (Or.inr rfl) (fun h => h) (by exact Nat.le_of_ble_eq_true rfl) ?_
    refine gz_useI (d := d + 129) (c_X12_thrown (d := d + 129) rfl) ?_
    dsimp only
    rw [hth]
    refine gz_iload (pc := 1879) dL_law__1879 rfl ?_
    refine gz_ic_eq (pc := 1881) (tgt := 1886) dL_law__1881 (by decide) (fun _ => ?_) (fun c => absurd rfl c)
    refine gz_iload (pc := 1886) dL_law__1886 rfl ?_
    refine gz_if_ne (pc := 1888) (tgt := 1903) dL_law__1888 (by decide) (fun _ => ?_) (fun c => absurd c (gzHs_ne hkl))
    refine gz_goto (pc := 1903) (tgt := 2739) dL_law__1903 (by decide) ?_
    exact K _ _ _ _ _ hR (by omega) (by omega)
set_option maxRecDepth 20000 in
theorem b_36 {g : gzG} {d i z : Nat} {I : gzIT} {J : gzJT} {Q : gzO → gzS → Prop} (hi : i + 6 ≤ g.2.2.2.2.2 1 61) (hz : z + 1 ≤ 512) (h : gzR I I) (K : ∀ (l5 l6 : Option gzV) (I2 : gzIT) (J2 : gzJT) (z2 : Nat), gzR I2 I2 → z ≤ z2 → z2 ≤ z + 1 → gzX g 512 (d + 130) mLaw 2739 [some (.inr (.inr (0, 61))), some (.inr (.inr (0, 30))), some (.inr (.inr (0, 47))), some (.inr (.inr (0, 59))), some (.inl (Int32.ofNat i)), l5, l6] [] (gzN, gzR0, I2, J2) z2 Q) :
    gzX g 512 (d + 130) mLaw 1906 [some (.inr (.inr (0, 61))), some (.inr (.inr (0, 30))), some (.inr (.inr (0, 47))), some (.inr (.inr (0, 59))), some (.inl (Int32.ofNat i)), none, none] [] (gzN, gzR0, I, J) z Q := by
  obtain ⟨e, I1, hf, hE, hM⟩ := L_swap (J := J) (gzXs g (i + 1)) (gzXs g (i + 2)) h
  refine gz_aload_n (pc := 1906) dL_law__1906 rfl ?_
  refine gz_aload_n (pc := 1907) dL_law__1907 rfl ?_
  refine gz_iload (pc := 1908) dL_law__1908 rfl ?_
  refine gz_iconst (pc := 1910) dL_law__1910 (v := 1) (by decide) ?_
  refine gz_iadd (pc := 1911) dL_law__1911 ?_
  refine gz_sld (j := i + 1) (pc := 1912) dL_law__1912 (Int32.ofNat_add i 1).symm (by omega) ?_
  refine gz_aload_n (pc := 1913) dL_law__1913 rfl ?_
  refine gz_iload (pc := 1914) dL_law__1914 rfl ?_
  refine gz_iconst (pc := 1916) dL_law__1916 (v := 2) (by decide) ?_
  refine gz_iadd (pc := 1917) dL_law__1917 ?_
  refine gz_sld (j := i + 2) (pc := 1918) dL_law__1918 (Int32.ofNat_add i 2).symm (by omega) ?_
  refine gz_aload_n (pc := 1919) dL_law__1919 rfl ?_
  refine gz_SH (zy := mL_swap) (hh := hL_swap) (zc := 1) (d := d + 129) (pc := 1920) [.inr (.inr (0, 30)), .inl (gzXs g (i + 1)), .inl (gzXs g (i + 2)), .inr (.inr (0, 59))] rfl dL_law__1920 lhL_swap MhL_swap rfl (Or.inr rfl) (fun _ => by omega) (by exact Nat.le_of_ble_eq_true rfl) ?_
  refine gzCh.mono (h_L_swap (d := d + 68) hf hE) ?_
  cases e with
  | ok v0 =>
    rintro _ _ ⟨rfl, rfl⟩
    obtain ⟨v, I2, J2, hm, hs, hj, hR⟩ := hM (gz_uj J 0 59 0 (gzCvZ v0))
    obtain ⟨rfl, hth⟩ := hs
    show gzX g 512 (d + 130) mLaw 1923 [some (.inr (.inr (0, 61))), some (.inr (.inr (0, 30))), some (.inr (.inr (0, 47))), some (.inr (.inr (0, 59))), some (.inl (Int32.ofNat i)), none, none] [.inl 0] (gzN, gzR0, I1, gz_uj J 0 59 0 (gzCvZ v0)) (z + 1) Q
    refine gz_istore (pc := 1923) dL_law__1923 (by decide) rfl (loc2 := [some (.inr (.inr (0, 61))), some (.inr (.inr (0, 30))), some (.inr (.inr (0, 47))), some (.inr (.inr (0, 59))), some (.inl (Int32.ofNat i)), some (.inl 0), none]) rfl ?_
    refine gz_aload_n (pc := 1925) dL_law__1925 rfl ?_
    refine gz_aload_n (pc := 1926) dL_law__1926 rfl ?_
    refine gz_iload (pc := 1927) dL_law__1927 rfl ?_
    refine gz_iconst (pc := 1929) dL_law__1929 (v := 1) (by decide) ?_
    refine gz_iadd (pc := 1930) dL_law__1930 ?_
    refine gz_sld (j := i + 1) (pc := 1931) dL_law__1931 (Int32.ofNat_add i 1).symm (by omega) ?_
    refine gz_aload_n (pc := 1932) dL_law__1932 rfl ?_
    refine gz_iload (pc := 1933) dL_law__1933 rfl ?_
    refine gz_iconst (pc := 1935) dL_law__1935 (v := 2) (by decide) ?_
    refine gz_iadd (pc := 1936) dL_law__1936 ?_
    refine gz_sld (j := i + 2) (pc := 1937) dL_law__1937 (Int32.ofNat_add i 2).symm (by omega) ?_
    refine gz_V (zy := mX12_swap) (zc := 0) (d := d + 129) (pc := 1938) (t := 0) (o := 47) (ci := 12) (r := (RX12, TX12, 21)) [.inl (gzXs g (i + 1)), .inl (gzXs g (i + 2))] rfl dL_law__1938 lkL_258 MvX12_swap rfl (gzOk_of (by decide)) rfl rfl rfl (Or.inr rfl) (fun h => h) (by exact Nat.le_of_ble_eq_true rfl) ?_
    refine gz_useI (d := d + 129) (c_X12_swap (d := d + 126) hm) ?_
    refine gz_istore (pc := 1941) dL_law__1941 (by decide) rfl (loc2 := [some (.inr (.inr (0, 61))), some (.inr (.inr (0, 30))), some (.inr (.inr (0, 47))), some (.inr (.inr (0, 59))), some (.inl (Int32.ofNat i)), some (.inl 0), some (.inl v0)]) rfl ?_
    refine gz_aload_n (pc := 1943) dL_law__1943 rfl ?_
    refine gz_V (zy := mX12_thrown) (zc := 0) (d := d + 129) (pc := 1944) (t := 0) (o := 47) (ci := 12) (r := (RX12, TX12, 21)) [] rfl dL_law__1944 lkL_134 MvX12_thrown rfl (gzOk_of (by decide)) rfl rfl rfl (Or.inr rfl) (fun h => h) (by exact Nat.le_of_ble_eq_true rfl) ?_
    refine gz_useI (d := d + 129) (c_X12_thrown (d := d + 129) rfl) ?_
    dsimp only
    rw [hth]
    refine gz_iload (pc := 1947) dL_law__1947 rfl ?_
    refine gz_ic_eq (pc := 1949) (tgt := 1954) dL_law__1949 (by decide) (fun _ => ?_) (fun c => absurd rfl c)
    refine gz_iload (pc := 1954) dL_law__1954 rfl ?_
    refine gz_if_ne (pc := 1956) (tgt := 1978) dL_law__1956 (by decide) (fun c => absurd rfl c) (fun _ => ?_)
    refine gz_aload_n (pc := 1959) dL_law__1959 rfl ?_
    refine gz_iconst (pc := 1960) dL_law__1960 (v := 0) (by decide) ?_
    refine gz_lald (N := 1) (pc := 1961) dL_law__1961 (gzOk_of (by decide)) rfl (gz_vpd (by decide)) ?_
    rw [show J2 0 59 (0 : Int32).toNatClampNeg = gzCvZ v0 from hj.trans gz_uj_s0]
    refine gz_iload (pc := 1962) dL_law__1962 rfl ?_
    refine gz_if_eq (pc := 1964) (tgt := 1971) dL_law__1964 (by decide) (fun hv => ?_) (fun hv => ?_)
    · rw [show gzCvZ v0 = 0 from if_pos hv]
      refine gz_lconst (pc := 1971) dL_law__1971 (v := 0) (by decide) ?_
      refine gz_lcmp (pc := 1972) dL_law__1972 ?_
      first | rw [show lg_cmp (gzCvI v0) v0.toInt64 = 0 from gz_cmp_self] | rw [gz_cmp_self]
      refine gz_if_eq (pc := 1973) (tgt := 1978) dL_law__1973 (by decide) (fun _ => ?_) (fun c => absurd rfl c)
      refine gz_goto (pc := 1978) (tgt := 2739) dL_law__1978 (by decide) ?_
      exact K _ _ _ _ _ hR (by omega) (by omega)
    · rw [show gzCvZ v0 = 1 from if_neg hv]
      refine gz_lconst (pc := 1967) dL_law__1967 (v := 1) (by decide) ?_
      refine gz_goto (pc := 1968) (tgt := 1972) dL_law__1968 (by decide) ?_
      refine gz_lcmp (pc := 1972) dL_law__1972 ?_
      first | rw [show lg_cmp (gzCvI v0) v0.toInt64 = 0 from gz_cmp_self] | rw [gz_cmp_self]
      refine gz_if_eq (pc := 1973) (tgt := 1978) dL_law__1973 (by decide) (fun _ => ?_) (fun c => absurd rfl c)
      refine gz_goto (pc := 1978) (tgt := 2739) dL_law__1978 (by decide) ?_
      exact K _ _ _ _ _ hR (by omega) (by omega)
  | error E =>
    rintro _ _ ⟨kk, hk, rfl, rfl⟩
    obtain ⟨v, I2, J2, hm, ⟨k2, hk2, hth⟩, hj, hR⟩ := hM J
    have ekk : k2 = kk := gzHs_inj (by decide) hk2 hk
    subst ekk
    have hkl : k2 < 2 ^ 20 := gzHs_lt hk (by decide)
    show gzX g 512 (d + 130) mLaw 1923 [some (.inr (.inr (0, 61))), some (.inr (.inr (0, 30))), some (.inr (.inr (0, 47))), some (.inr (.inr (0, 59))), some (.inl (Int32.ofNat i)), none, none] [.inl (Int32.ofNat (k2 + 1))] (gzN, gzR0, I1, J) (z + 1) Q
    refine gz_istore (pc := 1923) dL_law__1923 (by decide) rfl (loc2 := [some (.inr (.inr (0, 61))), some (.inr (.inr (0, 30))), some (.inr (.inr (0, 47))), some (.inr (.inr (0, 59))), some (.inl (Int32.ofNat i)), some (.inl (Int32.ofNat (k2 + 1))), none]) rfl ?_
    refine gz_aload_n (pc := 1925) dL_law__1925 rfl ?_
    refine gz_aload_n (pc := 1926) dL_law__1926 rfl ?_
    refine gz_iload (pc := 1927) dL_law__1927 rfl ?_
    refine gz_iconst (pc := 1929) dL_law__1929 (v := 1) (by decide) ?_
    refine gz_iadd (pc := 1930) dL_law__1930 ?_
    refine gz_sld (j := i + 1) (pc := 1931) dL_law__1931 (Int32.ofNat_add i 1).symm (by omega) ?_
    refine gz_aload_n (pc := 1932) dL_law__1932 rfl ?_
    refine gz_iload (pc := 1933) dL_law__1933 rfl ?_
    refine gz_iconst (pc := 1935) dL_law__1935 (v := 2) (by decide) ?_
    refine gz_iadd (pc := 1936) dL_law__1936 ?_
    refine gz_sld (j := i + 2) (pc := 1937) dL_law__1937 (Int32.ofNat_add i 2).symm (by omega) ?_
    refine gz_V (zy := mX12_swap) (zc := 0) (d := d + 129) (pc := 1938) (t := 0) (o := 47) (ci := 12) (r := (RX12, TX12, 21)) [.inl (gzXs g (i + 1)), .inl (gzXs g (i + 2))] rfl dL_law__1938 lkL_258 MvX12_swap rfl (gzOk_of (by decide)) rfl rfl rfl (Or.inr rfl) (fun h => h) (by exact Nat.le_of_ble_eq_true rfl) ?_
    refine gz_useI (d := d + 129) (c_X12_swap (d := d + 126) hm) ?_
    refine gz_istore (pc := 1941) dL_law__1941 (by decide) rfl (loc2 := [some (.inr (.inr (0, 61))), some (.inr (.inr (0, 30))), some (.inr (.inr (0, 47))), some (.inr (.inr (0, 59))), some (.inl (Int32.ofNat i)), some (.inl (Int32.ofNat (k2 + 1))), some (.inl v)]) rfl ?_
    refine gz_aload_n (pc := 1943) dL_law__1943 rfl ?_
    refine gz_V (zy := mX12_thrown) (zc := 0) (d := d + 129) (pc := 1944) (t := 0) (o := 47) (ci := 12) (r := (RX12, TX12, 21)) [] rfl dL_law__1944 lkL_134 MvX12_thrown rfl (gzOk_of (by decide)) rfl rfl rfl (Or.inr rfl) (fun h => h) (by exact Nat.le_of_ble_eq_true rfl) ?_
    refine gz_useI (d := d + 129) (c_X12_thrown (d := d + 129) rfl) ?_
    dsimp only
    rw [hth]
    refine gz_iload (pc := 1947) dL_law__1947 rfl ?_
    refine gz_ic_eq (pc := 1949) (tgt := 1954) dL_law__1949 (by decide) (fun _ => ?_) (fun c => absurd rfl c)
    refine gz_iload (pc := 1954) dL_law__1954 rfl ?_
    refine gz_if_ne (pc := 1956) (tgt := 1978) dL_law__1956 (by decide) (fun _ => ?_) (fun c => absurd c (gzHs_ne hkl))
    refine gz_goto (pc := 1978) (tgt := 2739) dL_law__1978 (by decide) ?_
    exact K _ _ _ _ _ hR (by omega) (by omega)
set_option maxRecDepth 20000 in
theorem b_37 {g : gzG} {d i z : Nat} {I : gzIT} {J : gzJT} {Q : gzO → gzS → Prop} (hi : i + 6 ≤ g.2.2.2.2.2 1 61) (hz : z + 1 ≤ 512) (h : gzR I I) (K : ∀ (l5 l6 : Option gzV) (I2 : gzIT) (J2 : gzJT) (z2 : Nat), gzR I2 I2 → z ≤ z2 → z2 ≤ z + 1 → gzX g 512 (d + 130) mLaw 2739 [some (.inr (.inr (0, 61))), some (.inr (.inr (0, 30))), some (.inr (.inr (0, 47))), some (.inr (.inr (0, 59))), some (.inl (Int32.ofNat i)), l5, l6] [] (gzN, gzR0, I2, J2) z2 Q) :
    gzX g 512 (d + 130) mLaw 1981 [some (.inr (.inr (0, 61))), some (.inr (.inr (0, 30))), some (.inr (.inr (0, 47))), some (.inr (.inr (0, 59))), some (.inl (Int32.ofNat i)), none, none] [] (gzN, gzR0, I, J) z Q := by
  obtain ⟨e, I1, hf, hE, hM⟩ := L_rests (J := J) (gzXs g (i + 1)) h
  refine gz_aload_n (pc := 1981) dL_law__1981 rfl ?_
  refine gz_aload_n (pc := 1982) dL_law__1982 rfl ?_
  refine gz_iload (pc := 1983) dL_law__1983 rfl ?_
  refine gz_iconst (pc := 1985) dL_law__1985 (v := 1) (by decide) ?_
  refine gz_iadd (pc := 1986) dL_law__1986 ?_
  refine gz_sld (j := i + 1) (pc := 1987) dL_law__1987 (Int32.ofNat_add i 1).symm (by omega) ?_
  refine gz_aload_n (pc := 1988) dL_law__1988 rfl ?_
  refine gz_SH (zy := mL_rests) (hh := hL_rests) (zc := 1) (d := d + 129) (pc := 1989) [.inr (.inr (0, 30)), .inl (gzXs g (i + 1)), .inr (.inr (0, 59))] rfl dL_law__1989 lhL_rests MhL_rests rfl (Or.inr rfl) (fun _ => by omega) (by exact Nat.le_of_ble_eq_true rfl) ?_
  refine gzCh.mono (h_L_rests (d := d + 68) hf hE) ?_
  cases e with
  | ok v0 =>
    rintro _ _ ⟨rfl, rfl⟩
    obtain ⟨v, I2, J2, hm, hs, hj, hR⟩ := hM (gz_uj J 0 59 0 (gzCvI v0))
    obtain ⟨rfl, hth⟩ := hs
    show gzX g 512 (d + 130) mLaw 1992 [some (.inr (.inr (0, 61))), some (.inr (.inr (0, 30))), some (.inr (.inr (0, 47))), some (.inr (.inr (0, 59))), some (.inl (Int32.ofNat i)), none, none] [.inl 0] (gzN, gzR0, I1, gz_uj J 0 59 0 (gzCvI v0)) (z + 1) Q
    refine gz_istore (pc := 1992) dL_law__1992 (by decide) rfl (loc2 := [some (.inr (.inr (0, 61))), some (.inr (.inr (0, 30))), some (.inr (.inr (0, 47))), some (.inr (.inr (0, 59))), some (.inl (Int32.ofNat i)), some (.inl 0), none]) rfl ?_
    refine gz_aload_n (pc := 1994) dL_law__1994 rfl ?_
    refine gz_aload_n (pc := 1995) dL_law__1995 rfl ?_
    refine gz_iload (pc := 1996) dL_law__1996 rfl ?_
    refine gz_iconst (pc := 1998) dL_law__1998 (v := 1) (by decide) ?_
    refine gz_iadd (pc := 1999) dL_law__1999 ?_
    refine gz_sld (j := i + 1) (pc := 2000) dL_law__2000 (Int32.ofNat_add i 1).symm (by omega) ?_
    refine gz_V (zy := mX12_rests) (zc := 0) (d := d + 129) (pc := 2001) (t := 0) (o := 47) (ci := 12) (r := (RX12, TX12, 21)) [.inl (gzXs g (i + 1))] rfl dL_law__2001 lkL_261 MvX12_rests rfl (gzOk_of (by decide)) rfl rfl rfl (Or.inr rfl) (fun h => h) (by exact Nat.le_of_ble_eq_true rfl) ?_
    refine gz_useI (d := d + 129) (c_X12_rests (d := d + 125) hm) ?_
    refine gz_istore (pc := 2004) dL_law__2004 (by decide) rfl (loc2 := [some (.inr (.inr (0, 61))), some (.inr (.inr (0, 30))), some (.inr (.inr (0, 47))), some (.inr (.inr (0, 59))), some (.inl (Int32.ofNat i)), some (.inl 0), some (.inl v0)]) rfl ?_
    refine gz_aload_n (pc := 2006) dL_law__2006 rfl ?_
    refine gz_V (zy := mX12_thrown) (zc := 0) (d := d + 129) (pc := 2007) (t := 0) (o := 47) (ci := 12) (r := (RX12, TX12, 21)) [] rfl dL_law__2007 lkL_134 MvX12_thrown rfl (gzOk_of (by decide)) rfl rfl rfl (Or.inr rfl) (fun h => h) (by exact Nat.le_of_ble_eq_true rfl) ?_
    refine gz_useI (d := d + 129) (c_X12_thrown (d := d + 129) rfl) ?_
    dsimp only
    rw [hth]
    refine gz_iload (pc := 2010) dL_law__2010 rfl ?_
    refine gz_ic_eq (pc := 2012) (tgt := 2017) dL_law__2012 (by decide) (fun _ => ?_) (fun c => absurd rfl c)
    refine gz_iload (pc := 2017) dL_law__2017 rfl ?_
    refine gz_if_ne (pc := 2019) (tgt := 2034) dL_law__2019 (by decide) (fun c => absurd rfl c) (fun _ => ?_)
    refine gz_aload_n (pc := 2022) dL_law__2022 rfl ?_
    refine gz_iconst (pc := 2023) dL_law__2023 (v := 0) (by decide) ?_
    refine gz_lald (N := 1) (pc := 2024) dL_law__2024 (gzOk_of (by decide)) rfl (gz_vpd (by decide)) ?_
    rw [show J2 0 59 (0 : Int32).toNatClampNeg = gzCvI v0 from hj.trans gz_uj_s0]
    refine gz_iload (pc := 2025) dL_law__2025 rfl ?_
    refine gz_i2l (pc := 2027) dL_law__2027 ?_
    refine gz_lcmp (pc := 2028) dL_law__2028 ?_
    first | rw [show lg_cmp (gzCvI v0) v0.toInt64 = 0 from gz_cmp_self] | rw [gz_cmp_self]
    refine gz_if_eq (pc := 2029) (tgt := 2034) dL_law__2029 (by decide) (fun _ => ?_) (fun c => absurd rfl c)
    refine gz_goto (pc := 2034) (tgt := 2739) dL_law__2034 (by decide) ?_
    exact K _ _ _ _ _ hR (by omega) (by omega)
  | error E =>
    rintro _ _ ⟨kk, hk, rfl, rfl⟩
    obtain ⟨v, I2, J2, hm, ⟨k2, hk2, hth⟩, hj, hR⟩ := hM J
    have ekk : k2 = kk := gzHs_inj (by decide) hk2 hk
    subst ekk
    have hkl : k2 < 2 ^ 20 := gzHs_lt hk (by decide)
    show gzX g 512 (d + 130) mLaw 1992 [some (.inr (.inr (0, 61))), some (.inr (.inr (0, 30))), some (.inr (.inr (0, 47))), some (.inr (.inr (0, 59))), some (.inl (Int32.ofNat i)), none, none] [.inl (Int32.ofNat (k2 + 1))] (gzN, gzR0, I1, J) (z + 1) Q
    refine gz_istore (pc := 1992) dL_law__1992 (by decide) rfl (loc2 := [some (.inr (.inr (0, 61))), some (.inr (.inr (0, 30))), some (.inr (.inr (0, 47))), some (.inr (.inr (0, 59))), some (.inl (Int32.ofNat i)), some (.inl (Int32.ofNat (k2 + 1))), none]) rfl ?_
    refine gz_aload_n (pc := 1994) dL_law__1994 rfl ?_
    refine gz_aload_n (pc := 1995) dL_law__1995 rfl ?_
    refine gz_iload (pc := 1996) dL_law__1996 rfl ?_
    refine gz_iconst (pc := 1998) dL_law__1998 (v := 1) (by decide) ?_
    refine gz_iadd (pc := 1999) dL_law__1999 ?_
    refine gz_sld (j := i + 1) (pc := 2000) dL_law__2000 (Int32.ofNat_add i 1).symm (by omega) ?_
    refine gz_V (zy := mX12_rests) (zc := 0) (d := d + 129) (pc := 2001) (t := 0) (o := 47) (ci := 12) (r := (RX12, TX12, 21)) [.inl (gzXs g (i + 1))] rfl dL_law__2001 lkL_261 MvX12_rests rfl (gzOk_of (by decide)) rfl rfl rfl (Or.inr rfl) (fun h => h) (by exact Nat.le_of_ble_eq_true rfl) ?_
    refine gz_useI (d := d + 129) (c_X12_rests (d := d + 125) hm) ?_
    refine gz_istore (pc := 2004) dL_law__2004 (by decide) rfl (loc2 := [some (.inr (.inr (0, 61))), some (.inr (.inr (0, 30))), some (.inr (.inr (0, 47))), some (.inr (.inr (0, 59))), some (.inl (Int32.ofNat i)), some (.inl (Int32.ofNat (k2 + 1))), some (.inl v)]) rfl ?_
    refine gz_aload_n (pc := 2006) dL_law__2006 rfl ?_
    refine gz_V (zy := mX12_thrown) (zc := 0) (d := d + 129) (pc := 2007) (t := 0) (o := 47) (ci := 12) (r := (RX12, TX12, 21)) [] rfl dL_law__2007 lkL_134 MvX12_thrown rfl (gzOk_of (by decide)) rfl rfl rfl (Or.inr rfl) (fun h => h) (by exact Nat.le_of_ble_eq_true rfl) ?_
    refine gz_useI (d := d + 129) (c_X12_thrown (d := d + 129) rfl) ?_
    dsimp only
    rw [hth]
    refine gz_iload (pc := 2010) dL_law__2010 rfl ?_
    refine gz_ic_eq (pc := 2012) (tgt := 2017) dL_law__2012 (by decide) (fun _ => ?_) (fun c => absurd rfl c)
    refine gz_iload (pc := 2017) dL_law__2017 rfl ?_
    refine gz_if_ne (pc := 2019) (tgt := 2034) dL_law__2019 (by decide) (fun _ => ?_) (fun c => absurd c (gzHs_ne hkl))
    refine gz_goto (pc := 2034) (tgt := 2739) dL_law__2034 (by decide) ?_
    exact K _ _ _ _ _ hR (by omega) (by omega)
set_option maxRecDepth 20000 in
theorem b_38 {g : gzG} {d i z : Nat} {I : gzIT} {J : gzJT} {Q : gzO → gzS → Prop} (hi : i + 6 ≤ g.2.2.2.2.2 1 61) (hz : z + 1 ≤ 512) (h : gzR I I) (K : ∀ (l5 l6 : Option gzV) (I2 : gzIT) (J2 : gzJT) (z2 : Nat), gzR I2 I2 → z ≤ z2 → z2 ≤ z + 1 → gzX g 512 (d + 130) mLaw 2739 [some (.inr (.inr (0, 61))), some (.inr (.inr (0, 30))), some (.inr (.inr (0, 47))), some (.inr (.inr (0, 59))), some (.inl (Int32.ofNat i)), l5, l6] [] (gzN, gzR0, I2, J2) z2 Q) :
    gzX g 512 (d + 130) mLaw 2037 [some (.inr (.inr (0, 61))), some (.inr (.inr (0, 30))), some (.inr (.inr (0, 47))), some (.inr (.inr (0, 59))), some (.inl (Int32.ofNat i)), none, none] [] (gzN, gzR0, I, J) z Q := by
  obtain ⟨e, I1, hf, hE, hM⟩ := L_odds (J := J) (gzXs g (i + 1)) (gzXs g (i + 2)) h
  refine gz_aload_n (pc := 2037) dL_law__2037 rfl ?_
  refine gz_aload_n (pc := 2038) dL_law__2038 rfl ?_
  refine gz_iload (pc := 2039) dL_law__2039 rfl ?_
  refine gz_iconst (pc := 2041) dL_law__2041 (v := 1) (by decide) ?_
  refine gz_iadd (pc := 2042) dL_law__2042 ?_
  refine gz_sld (j := i + 1) (pc := 2043) dL_law__2043 (Int32.ofNat_add i 1).symm (by omega) ?_
  refine gz_aload_n (pc := 2044) dL_law__2044 rfl ?_
  refine gz_iload (pc := 2045) dL_law__2045 rfl ?_
  refine gz_iconst (pc := 2047) dL_law__2047 (v := 2) (by decide) ?_
  refine gz_iadd (pc := 2048) dL_law__2048 ?_
  refine gz_sld (j := i + 2) (pc := 2049) dL_law__2049 (Int32.ofNat_add i 2).symm (by omega) ?_
  refine gz_aload_n (pc := 2050) dL_law__2050 rfl ?_
  refine gz_SH (zy := mL_odds) (hh := hL_odds) (zc := 1) (d := d + 129) (pc := 2051) [.inr (.inr (0, 30)), .inl (gzXs g (i + 1)), .inl (gzXs g (i + 2)), .inr (.inr (0, 59))] rfl dL_law__2051 lhL_odds MhL_odds rfl (Or.inr rfl) (fun _ => by omega) (by exact Nat.le_of_ble_eq_true rfl) ?_
  refine gzCh.mono (h_L_odds (d := d + 68) hf hE) ?_
  cases e with
  | ok v0 =>
    rintro _ _ ⟨rfl, rfl⟩
    obtain ⟨v, I2, J2, hm, hs, hj, hR⟩ := hM (gz_uj J 0 59 0 (gzCvI v0))
    obtain ⟨rfl, hth⟩ := hs
    show gzX g 512 (d + 130) mLaw 2054 [some (.inr (.inr (0, 61))), some (.inr (.inr (0, 30))), some (.inr (.inr (0, 47))), some (.inr (.inr (0, 59))), some (.inl (Int32.ofNat i)), none, none] [.inl 0] (gzN, gzR0, I1, gz_uj J 0 59 0 (gzCvI v0)) (z + 1) Q
    refine gz_istore (pc := 2054) dL_law__2054 (by decide) rfl (loc2 := [some (.inr (.inr (0, 61))), some (.inr (.inr (0, 30))), some (.inr (.inr (0, 47))), some (.inr (.inr (0, 59))), some (.inl (Int32.ofNat i)), some (.inl 0), none]) rfl ?_
    refine gz_aload_n (pc := 2056) dL_law__2056 rfl ?_
    refine gz_aload_n (pc := 2057) dL_law__2057 rfl ?_
    refine gz_iload (pc := 2058) dL_law__2058 rfl ?_
    refine gz_iconst (pc := 2060) dL_law__2060 (v := 1) (by decide) ?_
    refine gz_iadd (pc := 2061) dL_law__2061 ?_
    refine gz_sld (j := i + 1) (pc := 2062) dL_law__2062 (Int32.ofNat_add i 1).symm (by omega) ?_
    refine gz_aload_n (pc := 2063) dL_law__2063 rfl ?_
    refine gz_iload (pc := 2064) dL_law__2064 rfl ?_
    refine gz_iconst (pc := 2066) dL_law__2066 (v := 2) (by decide) ?_
    refine gz_iadd (pc := 2067) dL_law__2067 ?_
    refine gz_sld (j := i + 2) (pc := 2068) dL_law__2068 (Int32.ofNat_add i 2).symm (by omega) ?_
    refine gz_V (zy := mX12_odds) (zc := 0) (d := d + 129) (pc := 2069) (t := 0) (o := 47) (ci := 12) (r := (RX12, TX12, 21)) [.inl (gzXs g (i + 1)), .inl (gzXs g (i + 2))] rfl dL_law__2069 lkL_264 MvX12_odds rfl (gzOk_of (by decide)) rfl rfl rfl (Or.inr rfl) (fun h => h) (by exact Nat.le_of_ble_eq_true rfl) ?_
    refine gz_useI (d := d + 129) (c_X12_odds (d := d + 128) hm) ?_
    refine gz_istore (pc := 2072) dL_law__2072 (by decide) rfl (loc2 := [some (.inr (.inr (0, 61))), some (.inr (.inr (0, 30))), some (.inr (.inr (0, 47))), some (.inr (.inr (0, 59))), some (.inl (Int32.ofNat i)), some (.inl 0), some (.inl v0)]) rfl ?_
    refine gz_aload_n (pc := 2074) dL_law__2074 rfl ?_
    refine gz_V (zy := mX12_thrown) (zc := 0) (d := d + 129) (pc := 2075) (t := 0) (o := 47) (ci := 12) (r := (RX12, TX12, 21)) [] rfl dL_law__2075 lkL_134 MvX12_thrown rfl (gzOk_of (by decide)) rfl rfl rfl (Or.inr rfl) (fun h => h) (by exact Nat.le_of_ble_eq_true rfl) ?_
    refine gz_useI (d := d + 129) (c_X12_thrown (d := d + 129) rfl) ?_
    dsimp only
    rw [hth]
    refine gz_iload (pc := 2078) dL_law__2078 rfl ?_
    refine gz_ic_eq (pc := 2080) (tgt := 2085) dL_law__2080 (by decide) (fun _ => ?_) (fun c => absurd rfl c)
    refine gz_iload (pc := 2085) dL_law__2085 rfl ?_
    refine gz_if_ne (pc := 2087) (tgt := 2102) dL_law__2087 (by decide) (fun c => absurd rfl c) (fun _ => ?_)
    refine gz_aload_n (pc := 2090) dL_law__2090 rfl ?_
    refine gz_iconst (pc := 2091) dL_law__2091 (v := 0) (by decide) ?_
    refine gz_lald (N := 1) (pc := 2092) dL_law__2092 (gzOk_of (by decide)) rfl (gz_vpd (by decide)) ?_
    rw [show J2 0 59 (0 : Int32).toNatClampNeg = gzCvI v0 from hj.trans gz_uj_s0]
    refine gz_iload (pc := 2093) dL_law__2093 rfl ?_
    refine gz_i2l (pc := 2095) dL_law__2095 ?_
    refine gz_lcmp (pc := 2096) dL_law__2096 ?_
    first | rw [show lg_cmp (gzCvI v0) v0.toInt64 = 0 from gz_cmp_self] | rw [gz_cmp_self]
    refine gz_if_eq (pc := 2097) (tgt := 2102) dL_law__2097 (by decide) (fun _ => ?_) (fun c => absurd rfl c)
    refine gz_goto (pc := 2102) (tgt := 2739) dL_law__2102 (by decide) ?_
    exact K _ _ _ _ _ hR (by omega) (by omega)
  | error E =>
    rintro _ _ ⟨kk, hk, rfl, rfl⟩
    obtain ⟨v, I2, J2, hm, ⟨k2, hk2, hth⟩, hj, hR⟩ := hM J
    have ekk : k2 = kk := gzHs_inj (by decide) hk2 hk
    subst ekk
    have hkl : k2 < 2 ^ 20 := gzHs_lt hk (by decide)
    show gzX g 512 (d + 130) mLaw 2054 [some (.inr (.inr (0, 61))), some (.inr (.inr (0, 30))), some (.inr (.inr (0, 47))), some (.inr (.inr (0, 59))), some (.inl (Int32.ofNat i)), none, none] [.inl (Int32.ofNat (k2 + 1))] (gzN, gzR0, I1, J) (z + 1) Q
    refine gz_istore (pc := 2054) dL_law__2054 (by decide) rfl (loc2 := [some (.inr (.inr (0, 61))), some (.inr (.inr (0, 30))), some (.inr (.inr (0, 47))), some (.inr (.inr (0, 59))), some (.inl (Int32.ofNat i)), some (.inl (Int32.ofNat (k2 + 1))), none]) rfl ?_
    refine gz_aload_n (pc := 2056) dL_law__2056 rfl ?_
    refine gz_aload_n (pc := 2057) dL_law__2057 rfl ?_
    refine gz_iload (pc := 2058) dL_law__2058 rfl ?_
    refine gz_iconst (pc := 2060) dL_law__2060 (v := 1) (by decide) ?_
    refine gz_iadd (pc := 2061) dL_law__2061 ?_
    refine gz_sld (j := i + 1) (pc := 2062) dL_law__2062 (Int32.ofNat_add i 1).symm (by omega) ?_
    refine gz_aload_n (pc := 2063) dL_law__2063 rfl ?_
    refine gz_iload (pc := 2064) dL_law__2064 rfl ?_
    refine gz_iconst (pc := 2066) dL_law__2066 (v := 2) (by decide) ?_
    refine gz_iadd (pc := 2067) dL_law__2067 ?_
    refine gz_sld (j := i + 2) (pc := 2068) dL_law__2068 (Int32.ofNat_add i 2).symm (by omega) ?_
    refine gz_V (zy := mX12_odds) (zc := 0) (d := d + 129) (pc := 2069) (t := 0) (o := 47) (ci := 12) (r := (RX12, TX12, 21)) [.inl (gzXs g (i + 1)), .inl (gzXs g (i + 2))] rfl dL_law__2069 lkL_264 MvX12_odds rfl (gzOk_of (by decide)) rfl rfl rfl (Or.inr rfl) (fun h => h) (by exact Nat.le_of_ble_eq_true rfl) ?_
    refine gz_useI (d := d + 129) (c_X12_odds (d := d + 128) hm) ?_
    refine gz_istore (pc := 2072) dL_law__2072 (by decide) rfl (loc2 := [some (.inr (.inr (0, 61))), some (.inr (.inr (0, 30))), some (.inr (.inr (0, 47))), some (.inr (.inr (0, 59))), some (.inl (Int32.ofNat i)), some (.inl (Int32.ofNat (k2 + 1))), some (.inl v)]) rfl ?_
    refine gz_aload_n (pc := 2074) dL_law__2074 rfl ?_
    refine gz_V (zy := mX12_thrown) (zc := 0) (d := d + 129) (pc := 2075) (t := 0) (o := 47) (ci := 12) (r := (RX12, TX12, 21)) [] rfl dL_law__2075 lkL_134 MvX12_thrown rfl (gzOk_of (by decide)) rfl rfl rfl (Or.inr rfl) (fun h => h) (by exact Nat.le_of_ble_eq_true rfl) ?_
    refine gz_useI (d := d + 129) (c_X12_thrown (d := d + 129) rfl) ?_
    dsimp only
    rw [hth]
    refine gz_iload (pc := 2078) dL_law__2078 rfl ?_
    refine gz_ic_eq (pc := 2080) (tgt := 2085) dL_law__2080 (by decide) (fun _ => ?_) (fun c => absurd rfl c)
    refine gz_iload (pc := 2085) dL_law__2085 rfl ?_
    refine gz_if_ne (pc := 2087) (tgt := 2102) dL_law__2087 (by decide) (fun _ => ?_) (fun c => absurd c (gzHs_ne hkl))
    refine gz_goto (pc := 2102) (tgt := 2739) dL_law__2102 (by decide) ?_
    exact K _ _ _ _ _ hR (by omega) (by omega)
set_option maxRecDepth 20000 in
theorem b_39 {g : gzG} {d i z : Nat} {I : gzIT} {J : gzJT} {Q : gzO → gzS → Prop} (hi : i + 6 ≤ g.2.2.2.2.2 1 61) (hz : z + 1 ≤ 512) (h : gzR I I) (K : ∀ (l5 l6 : Option gzV) (I2 : gzIT) (J2 : gzJT) (z2 : Nat), gzR I2 I2 → z ≤ z2 → z2 ≤ z + 1 → gzX g 512 (d + 130) mLaw 2739 [some (.inr (.inr (0, 61))), some (.inr (.inr (0, 30))), some (.inr (.inr (0, 47))), some (.inr (.inr (0, 59))), some (.inl (Int32.ofNat i)), l5, l6] [] (gzN, gzR0, I2, J2) z2 Q) :
    gzX g 512 (d + 130) mLaw 2105 [some (.inr (.inr (0, 61))), some (.inr (.inr (0, 30))), some (.inr (.inr (0, 47))), some (.inr (.inr (0, 59))), some (.inl (Int32.ofNat i)), none, none] [] (gzN, gzR0, I, J) z Q := by
  obtain ⟨v, I2, J2, hf, hm, hR⟩ := L_oldest (J := J) h
  refine gz_aload_n (pc := 2105) dL_law__2105 rfl ?_
  refine gz_V (zy := mX11_oldest) (zc := 0) (d := d + 129) (pc := 2106) (t := 0) (o := 30) (ci := 11) (r := (RX11, TX11, 13)) [] rfl dL_law__2106 lkL_265 MvX11_oldest rfl (gzOk_of (by decide)) rfl rfl rfl (Or.inr rfl) (fun h => h) (by exact Nat.le_of_ble_eq_true rfl) ?_
  refine gz_useI (d := d + 129) (c_X11_oldest (d := d + 128) hf) ?_
  refine gz_aload_n (pc := 2109) dL_law__2109 rfl ?_
  refine gz_V (zy := mX12_oldest) (zc := 0) (d := d + 129) (pc := 2110) (t := 0) (o := 47) (ci := 12) (r := (RX12, TX12, 21)) [] rfl dL_law__2110 lkL_268 MvX12_oldest rfl (gzOk_of (by decide)) rfl rfl rfl (Or.inr rfl) (fun h => h) (by exact Nat.le_of_ble_eq_true rfl) ?_
  refine gz_useI (d := d + 129) (c_X12_oldest (d := d + 126) hm) ?_
  refine gz_ic_eq (pc := 2113) (tgt := 2739) dL_law__2113 (by decide) (fun _ => ?_) (fun c => absurd rfl c)
  exact K _ _ _ _ _ hR (Nat.le_refl _) (by omega)
set_option maxRecDepth 20000 in
theorem b_40 {g : gzG} {d i z : Nat} {I : gzIT} {J : gzJT} {Q : gzO → gzS → Prop} (hi : i + 6 ≤ g.2.2.2.2.2 1 61) (hz : z + 1 ≤ 512) (h : gzR I I) (K : ∀ (l5 l6 : Option gzV) (I2 : gzIT) (J2 : gzJT) (z2 : Nat), gzR I2 I2 → z ≤ z2 → z2 ≤ z + 1 → gzX g 512 (d + 130) mLaw 2739 [some (.inr (.inr (0, 61))), some (.inr (.inr (0, 30))), some (.inr (.inr (0, 47))), some (.inr (.inr (0, 59))), some (.inl (Int32.ofNat i)), l5, l6] [] (gzN, gzR0, I2, J2) z2 Q) :
    gzX g 512 (d + 130) mLaw 2118 [some (.inr (.inr (0, 61))), some (.inr (.inr (0, 30))), some (.inr (.inr (0, 47))), some (.inr (.inr (0, 59))), some (.inl (Int32.ofNat i)), none, none] [] (gzN, gzR0, I, J) z Q := by
  obtain ⟨v, I2, J2, hf, hm, hR⟩ := L_blue (J := J) h
  refine gz_aload_n (pc := 2118) dL_law__2118 rfl ?_
  refine gz_V (zy := mX11_blue) (zc := 0) (d := d + 129) (pc := 2119) (t := 0) (o := 30) (ci := 11) (r := (RX11, TX11, 13)) [] rfl dL_law__2119 lkL_269 MvX11_blue rfl (gzOk_of (by decide)) rfl rfl rfl (Or.inr rfl) (fun h => h) (by exact Nat.le_of_ble_eq_true rfl) ?_
  refine gz_useI (d := d + 129) (c_X11_blue (d := d + 128) hf) ?_
  refine gz_aload_n (pc := 2122) dL_law__2122 rfl ?_
  refine gz_V (zy := mX12_blue) (zc := 0) (d := d + 129) (pc := 2123) (t := 0) (o := 47) (ci := 12) (r := (RX12, TX12, 21)) [] rfl dL_law__2123 lkL_272 MvX12_blue rfl (gzOk_of (by decide)) rfl rfl rfl (Or.inr rfl) (fun h => h) (by exact Nat.le_of_ble_eq_true rfl) ?_
  refine gz_useI (d := d + 129) (c_X12_blue (d := d + 126) hm) ?_
  refine gz_ic_eq (pc := 2126) (tgt := 2739) dL_law__2126 (by decide) (fun _ => ?_) (fun c => absurd rfl c)
  exact K _ _ _ _ _ hR (Nat.le_refl _) (by omega)
set_option maxRecDepth 20000 in
theorem b_41 {g : gzG} {d i z : Nat} {I : gzIT} {J : gzJT} {Q : gzO → gzS → Prop} (hi : i + 6 ≤ g.2.2.2.2.2 1 61) (hz : z + 1 ≤ 512) (h : gzR I I) (K : ∀ (l5 l6 : Option gzV) (I2 : gzIT) (J2 : gzJT) (z2 : Nat), gzR I2 I2 → z ≤ z2 → z2 ≤ z + 1 → gzX g 512 (d + 130) mLaw 2739 [some (.inr (.inr (0, 61))), some (.inr (.inr (0, 30))), some (.inr (.inr (0, 47))), some (.inr (.inr (0, 59))), some (.inl (Int32.ofNat i)), l5, l6] [] (gzN, gzR0, I2, J2) z2 Q) :
    gzX g 512 (d + 130) mLaw 2131 [some (.inr (.inr (0, 61))), some (.inr (.inr (0, 30))), some (.inr (.inr (0, 47))), some (.inr (.inr (0, 59))), some (.inl (Int32.ofNat i)), none, none] [] (gzN, gzR0, I, J) z Q := by
  obtain ⟨v, I2, J2, hf, hm, hR⟩ := L_nursed (J := J) h
  refine gz_aload_n (pc := 2131) dL_law__2131 rfl ?_
  refine gz_V (zy := mX11_nursed) (zc := 0) (d := d + 129) (pc := 2132) (t := 0) (o := 30) (ci := 11) (r := (RX11, TX11, 13)) [] rfl dL_law__2132 lkL_273 MvX11_nursed rfl (gzOk_of (by decide)) rfl rfl rfl (Or.inr rfl) (fun h => h) (by exact Nat.le_of_ble_eq_true rfl) ?_
  refine gz_useI (d := d + 129) (c_X11_nursed (d := d + 128) hf) ?_
  refine gz_aload_n (pc := 2135) dL_law__2135 rfl ?_
  refine gz_V (zy := mX12_nursed) (zc := 0) (d := d + 129) (pc := 2136) (t := 0) (o := 47) (ci := 12) (r := (RX12, TX12, 21)) [] rfl dL_law__2136 lkL_276 MvX12_nursed rfl (gzOk_of (by decide)) rfl rfl rfl (Or.inr rfl) (fun h => h) (by exact Nat.le_of_ble_eq_true rfl) ?_
  refine gz_useI (d := d + 129) (c_X12_nursed (d := d + 126) hm) ?_
  refine gz_ic_eq (pc := 2139) (tgt := 2739) dL_law__2139 (by decide) (fun _ => ?_) (fun c => absurd rfl c)
  exact K _ _ _ _ _ hR (Nat.le_refl _) (by omega)
set_option maxRecDepth 20000 in
theorem b_42 {g : gzG} {d i z : Nat} {I : gzIT} {J : gzJT} {Q : gzO → gzS → Prop} (hi : i + 6 ≤ g.2.2.2.2.2 1 61) (hz : z + 1 ≤ 512) (h : gzR I I) (K : ∀ (l5 l6 : Option gzV) (I2 : gzIT) (J2 : gzJT) (z2 : Nat), gzR I2 I2 → z ≤ z2 → z2 ≤ z + 1 → gzX g 512 (d + 130) mLaw 2739 [some (.inr (.inr (0, 61))), some (.inr (.inr (0, 30))), some (.inr (.inr (0, 47))), some (.inr (.inr (0, 59))), some (.inl (Int32.ofNat i)), l5, l6] [] (gzN, gzR0, I2, J2) z2 Q) :
    gzX g 512 (d + 130) mLaw 2144 [some (.inr (.inr (0, 61))), some (.inr (.inr (0, 30))), some (.inr (.inr (0, 47))), some (.inr (.inr (0, 59))), some (.inl (Int32.ofNat i)), none, none] [] (gzN, gzR0, I, J) z Q := by
  obtain ⟨v, I2, J2, hf, hm, hR⟩ := L_mutual (J := J) h
  refine gz_aload_n (pc := 2144) dL_law__2144 rfl ?_
  refine gz_V (zy := mX11_mutual) (zc := 0) (d := d + 129) (pc := 2145) (t := 0) (o := 30) (ci := 11) (r := (RX11, TX11, 13)) [] rfl dL_law__2145 lkL_277 MvX11_mutual rfl (gzOk_of (by decide)) rfl rfl rfl (Or.inr rfl) (fun h => h) (by exact Nat.le_of_ble_eq_true rfl) ?_
  refine gz_useI (d := d + 129) (c_X11_mutual (d := d + 128) hf) ?_
  refine gz_aload_n (pc := 2148) dL_law__2148 rfl ?_
  refine gz_V (zy := mX12_mutual) (zc := 0) (d := d + 129) (pc := 2149) (t := 0) (o := 47) (ci := 12) (r := (RX12, TX12, 21)) [] rfl dL_law__2149 lkL_280 MvX12_mutual rfl (gzOk_of (by decide)) rfl rfl rfl (Or.inr rfl) (fun h => h) (by exact Nat.le_of_ble_eq_true rfl) ?_
  refine gz_useI (d := d + 129) (c_X12_mutual (d := d + 125) hm) ?_
  refine gz_ic_eq (pc := 2152) (tgt := 2739) dL_law__2152 (by decide) (fun _ => ?_) (fun c => absurd rfl c)
  exact K _ _ _ _ _ hR (Nat.le_refl _) (by omega)
set_option maxRecDepth 20000 in
theorem b_43 {g : gzG} {d i z : Nat} {I : gzIT} {J : gzJT} {Q : gzO → gzS → Prop} (hi : i + 6 ≤ g.2.2.2.2.2 1 61) (hz : z + 1 ≤ 512) (h : gzR I I) (K : ∀ (l5 l6 : Option gzV) (I2 : gzIT) (J2 : gzJT) (z2 : Nat), gzR I2 I2 → z ≤ z2 → z2 ≤ z + 1 → gzX g 512 (d + 130) mLaw 2739 [some (.inr (.inr (0, 61))), some (.inr (.inr (0, 30))), some (.inr (.inr (0, 47))), some (.inr (.inr (0, 59))), some (.inl (Int32.ofNat i)), l5, l6] [] (gzN, gzR0, I2, J2) z2 Q) :
    gzX g 512 (d + 130) mLaw 2157 [some (.inr (.inr (0, 61))), some (.inr (.inr (0, 30))), some (.inr (.inr (0, 47))), some (.inr (.inr (0, 59))), some (.inl (Int32.ofNat i)), none, none] [] (gzN, gzR0, I, J) z Q := by
  obtain ⟨v, I2, J2, hf, hm, hR⟩ := L_proud (J := J) h
  refine gz_aload_n (pc := 2157) dL_law__2157 rfl ?_
  refine gz_V (zy := mX11_proud) (zc := 0) (d := d + 129) (pc := 2158) (t := 0) (o := 30) (ci := 11) (r := (RX11, TX11, 13)) [] rfl dL_law__2158 lkL_281 MvX11_proud rfl (gzOk_of (by decide)) rfl rfl rfl (Or.inr rfl) (fun h => h) (by exact Nat.le_of_ble_eq_true rfl) ?_
  refine gz_useI (d := d + 129) (c_X11_proud (d := d + 128) hf) ?_
  refine gz_aload_n (pc := 2161) dL_law__2161 rfl ?_
  refine gz_V (zy := mX12_proud) (zc := 0) (d := d + 129) (pc := 2162) (t := 0) (o := 47) (ci := 12) (r := (RX12, TX12, 21)) [] rfl dL_law__2162 lkL_284 MvX12_proud rfl (gzOk_of (by decide)) rfl rfl rfl (Or.inr rfl) (fun h => h) (by exact Nat.le_of_ble_eq_true rfl) ?_
  refine gz_useI (d := d + 129) (c_X12_proud (d := d + 127) hm) ?_
  refine gz_ic_eq (pc := 2165) (tgt := 2739) dL_law__2165 (by decide) (fun _ => ?_) (fun c => absurd rfl c)
  exact K _ _ _ _ _ hR (Nat.le_refl _) (by omega)
set_option maxRecDepth 20000 in
theorem b_44 {g : gzG} {d i z : Nat} {I : gzIT} {J : gzJT} {Q : gzO → gzS → Prop} (hi : i + 6 ≤ g.2.2.2.2.2 1 61) (hz : z + 1 ≤ 512) (h : gzR I I) (K : ∀ (l5 l6 : Option gzV) (I2 : gzIT) (J2 : gzJT) (z2 : Nat), gzR I2 I2 → z ≤ z2 → z2 ≤ z + 1 → gzX g 512 (d + 130) mLaw 2739 [some (.inr (.inr (0, 61))), some (.inr (.inr (0, 30))), some (.inr (.inr (0, 47))), some (.inr (.inr (0, 59))), some (.inl (Int32.ofNat i)), l5, l6] [] (gzN, gzR0, I2, J2) z2 Q) :
    gzX g 512 (d + 130) mLaw 2170 [some (.inr (.inr (0, 61))), some (.inr (.inr (0, 30))), some (.inr (.inr (0, 47))), some (.inr (.inr (0, 59))), some (.inl (Int32.ofNat i)), none, none] [] (gzN, gzR0, I, J) z Q := by
  obtain ⟨v, I2, J2, hf, hm, hR⟩ := L_offs (J := J) h
  refine gz_aload_n (pc := 2170) dL_law__2170 rfl ?_
  refine gz_V (zy := mX11_offs) (zc := 0) (d := d + 129) (pc := 2171) (t := 0) (o := 30) (ci := 11) (r := (RX11, TX11, 13)) [] rfl dL_law__2171 lkL_285 MvX11_offs rfl (gzOk_of (by decide)) rfl rfl rfl (Or.inr rfl) (fun h => h) (by exact Nat.le_of_ble_eq_true rfl) ?_
  refine gz_useI (d := d + 129) (c_X11_offs (d := d + 129) hf) ?_
  refine gz_aload_n (pc := 2174) dL_law__2174 rfl ?_
  refine gz_V (zy := mX12_offs) (zc := 0) (d := d + 129) (pc := 2175) (t := 0) (o := 47) (ci := 12) (r := (RX12, TX12, 21)) [] rfl dL_law__2175 lkL_288 MvX12_offs rfl (gzOk_of (by decide)) rfl rfl rfl (Or.inr rfl) (fun h => h) (by exact Nat.le_of_ble_eq_true rfl) ?_
  refine gz_useI (d := d + 129) (c_X12_offs (d := d + 127) hm) ?_
  refine gz_ic_eq (pc := 2178) (tgt := 2739) dL_law__2178 (by decide) (fun _ => ?_) (fun c => absurd rfl c)
  exact K _ _ _ _ _ hR (Nat.le_refl _) (by omega)
set_option maxRecDepth 20000 in
theorem b_45 {g : gzG} {d i z : Nat} {I : gzIT} {J : gzJT} {Q : gzO → gzS → Prop} (hi : i + 6 ≤ g.2.2.2.2.2 1 61) (hz : z + 1 ≤ 512) (h : gzR I I) (K : ∀ (l5 l6 : Option gzV) (I2 : gzIT) (J2 : gzJT) (z2 : Nat), gzR I2 I2 → z ≤ z2 → z2 ≤ z + 1 → gzX g 512 (d + 130) mLaw 2739 [some (.inr (.inr (0, 61))), some (.inr (.inr (0, 30))), some (.inr (.inr (0, 47))), some (.inr (.inr (0, 59))), some (.inl (Int32.ofNat i)), l5, l6] [] (gzN, gzR0, I2, J2) z2 Q) :
    gzX g 512 (d + 130) mLaw 2183 [some (.inr (.inr (0, 61))), some (.inr (.inr (0, 30))), some (.inr (.inr (0, 47))), some (.inr (.inr (0, 59))), some (.inl (Int32.ofNat i)), none, none] [] (gzN, gzR0, I, J) z Q := by
  obtain ⟨v, I2, J2, hf, hm, hR⟩ := L_twins (J := J) h
  refine gz_aload_n (pc := 2183) dL_law__2183 rfl ?_
  refine gz_V (zy := mX11_twins) (zc := 0) (d := d + 129) (pc := 2184) (t := 0) (o := 30) (ci := 11) (r := (RX11, TX11, 13)) [] rfl dL_law__2184 lkL_289 MvX11_twins rfl (gzOk_of (by decide)) rfl rfl rfl (Or.inr rfl) (fun h => h) (by exact Nat.le_of_ble_eq_true rfl) ?_
  refine gz_useI (d := d + 129) (c_X11_twins (d := d + 127) hf) ?_
  refine gz_aload_n (pc := 2187) dL_law__2187 rfl ?_
  refine gz_V (zy := mX12_twins) (zc := 0) (d := d + 129) (pc := 2188) (t := 0) (o := 47) (ci := 12) (r := (RX12, TX12, 21)) [] rfl dL_law__2188 lkL_292 MvX12_twins rfl (gzOk_of (by decide)) rfl rfl rfl (Or.inr rfl) (fun h => h) (by exact Nat.le_of_ble_eq_true rfl) ?_
  refine gz_useI (d := d + 129) (c_X12_twins (d := d + 126) hm) ?_
  refine gz_ic_eq (pc := 2191) (tgt := 2739) dL_law__2191 (by decide) (fun _ => ?_) (fun c => absurd rfl c)
  exact K _ _ _ _ _ hR (Nat.le_refl _) (by omega)
set_option maxRecDepth 20000 in
theorem b_46 {g : gzG} {d i z : Nat} {I : gzIT} {J : gzJT} {Q : gzO → gzS → Prop} (hi : i + 6 ≤ g.2.2.2.2.2 1 61) (hz : z + 1 ≤ 512) (h : gzR I I) (K : ∀ (l5 l6 : Option gzV) (I2 : gzIT) (J2 : gzJT) (z2 : Nat), gzR I2 I2 → z ≤ z2 → z2 ≤ z + 1 → gzX g 512 (d + 130) mLaw 2739 [some (.inr (.inr (0, 61))), some (.inr (.inr (0, 30))), some (.inr (.inr (0, 47))), some (.inr (.inr (0, 59))), some (.inl (Int32.ofNat i)), l5, l6] [] (gzN, gzR0, I2, J2) z2 Q) :
    gzX g 512 (d + 130) mLaw 2196 [some (.inr (.inr (0, 61))), some (.inr (.inr (0, 30))), some (.inr (.inr (0, 47))), some (.inr (.inr (0, 59))), some (.inl (Int32.ofNat i)), none, none] [] (gzN, gzR0, I, J) z Q := by
  obtain ⟨e, I1, hf, hE, hM⟩ := L_ahead (J := J) (gzXs g (i + 1)) (gzXs g (i + 2)) h
  refine gz_aload_n (pc := 2196) dL_law__2196 rfl ?_
  refine gz_aload_n (pc := 2197) dL_law__2197 rfl ?_
  refine gz_iload (pc := 2198) dL_law__2198 rfl ?_
  refine gz_iconst (pc := 2200) dL_law__2200 (v := 1) (by decide) ?_
  refine gz_iadd (pc := 2201) dL_law__2201 ?_
  refine gz_sld (j := i + 1) (pc := 2202) dL_law__2202 (Int32.ofNat_add i 1).symm (by omega) ?_
  refine gz_aload_n (pc := 2203) dL_law__2203 rfl ?_
  refine gz_iload (pc := 2204) dL_law__2204 rfl ?_
  refine gz_iconst (pc := 2206) dL_law__2206 (v := 2) (by decide) ?_
  refine gz_iadd (pc := 2207) dL_law__2207 ?_
  refine gz_sld (j := i + 2) (pc := 2208) dL_law__2208 (Int32.ofNat_add i 2).symm (by omega) ?_
  refine gz_aload_n (pc := 2209) dL_law__2209 rfl ?_
  refine gz_SH (zy := mL_ahead) (hh := hL_ahead) (zc := 1) (d := d + 129) (pc := 2210) [.inr (.inr (0, 30)), .inl (gzXs g (i + 1)), .inl (gzXs g (i + 2)), .inr (.inr (0, 59))] rfl dL_law__2210 lhL_ahead MhL_ahead rfl (Or.inr rfl) (fun _ => by omega) (by exact Nat.le_of_ble_eq_true rfl) ?_
  refine gzCh.mono (h_L_ahead (d := d + 68) hf hE) ?_
  cases e with
  | ok v0 =>
    rintro _ _ ⟨rfl, rfl⟩
    obtain ⟨v, I2, J2, hm, hs, hj, hR⟩ := hM (gz_uj J 0 59 0 (gzCvI v0))
    obtain ⟨rfl, hth⟩ := hs
    show gzX g 512 (d + 130) mLaw 2213 [some (.inr (.inr (0, 61))), some (.inr (.inr (0, 30))), some (.inr (.inr (0, 47))), some (.inr (.inr (0, 59))), some (.inl (Int32.ofNat i)), none, none] [.inl 0] (gzN, gzR0, I1, gz_uj J 0 59 0 (gzCvI v0)) (z + 1) Q
    refine gz_istore (pc := 2213) dL_law__2213 (by decide) rfl (loc2 := [some (.inr (.inr (0, 61))), some (.inr (.inr (0, 30))), some (.inr (.inr (0, 47))), some (.inr (.inr (0, 59))), some (.inl (Int32.ofNat i)), some (.inl 0), none]) rfl ?_
    refine gz_aload_n (pc := 2215) dL_law__2215 rfl ?_
    refine gz_aload_n (pc := 2216) dL_law__2216 rfl ?_
    refine gz_iload (pc := 2217) dL_law__2217 rfl ?_
    refine gz_iconst (pc := 2219) dL_law__2219 (v := 1) (by decide) ?_
    refine gz_iadd (pc := 2220) dL_law__2220 ?_
    refine gz_sld (j := i + 1) (pc := 2221) dL_law__2221 (Int32.ofNat_add i 1).symm (by omega) ?_
    refine gz_aload_n (pc := 2222) dL_law__2222 rfl ?_
    refine gz_iload (pc := 2223) dL_law__2223 rfl ?_
    refine gz_iconst (pc := 2225) dL_law__2225 (v := 2) (by decide) ?_
    refine gz_iadd (pc := 2226) dL_law__2226 ?_
    refine gz_sld (j := i + 2) (pc := 2227) dL_law__2227 (Int32.ofNat_add i 2).symm (by omega) ?_
    refine gz_V (zy := mX12_ahead) (zc := 0) (d := d + 129) (pc := 2228) (t := 0) (o := 47) (ci := 12) (r := (RX12, TX12, 21)) [.inl (gzXs g (i + 1)), .inl (gzXs g (i + 2))] rfl dL_law__2228 lkL_295 MvX12_ahead rfl (gzOk_of (by decide)) rfl rfl rfl (Or.inr rfl) (fun h => h) (by exact Nat.le_of_ble_eq_true rfl) ?_
    refine gz_useI (d := d + 129) (c_X12_ahead (d := d + 119) hm) ?_
    refine gz_istore (pc := 2231) dL_law__2231 (by decide) rfl (loc2 := [some (.inr (.inr (0, 61))), some (.inr (.inr (0, 30))), some (.inr (.inr (0, 47))), some (.inr (.inr (0, 59))), some (.inl (Int32.ofNat i)), some (.inl 0), some (.inl v0)]) rfl ?_
    refine gz_aload_n (pc := 2233) dL_law__2233 rfl ?_
    refine gz_V (zy := mX12_thrown) (zc := 0) (d := d + 129) (pc := 2234) (t := 0) (o := 47) (ci := 12) (r := (RX12, TX12, 21)) [] rfl dL_law__2234 lkL_134 MvX12_thrown rfl (gzOk_of (by decide)) rfl rfl rfl (Or.inr rfl) (fun h => h) (by exact Nat.le_of_ble_eq_true rfl) ?_
    refine gz_useI (d := d + 129) (c_X12_thrown (d := d + 129) rfl) ?_
    dsimp only
    rw [hth]
    refine gz_iload (pc := 2237) dL_law__2237 rfl ?_
    refine gz_ic_eq (pc := 2239) (tgt := 2244) dL_law__2239 (by decide) (fun _ => ?_) (fun c => absurd rfl c)
    refine gz_iload (pc := 2244) dL_law__2244 rfl ?_
    refine gz_if_ne (pc := 2246) (tgt := 2261) dL_law__2246 (by decide) (fun c => absurd rfl c) (fun _ => ?_)
    refine gz_aload_n (pc := 2249) dL_law__2249 rfl ?_
    refine gz_iconst (pc := 2250) dL_law__2250 (v := 0) (by decide) ?_
    refine gz_lald (N := 1) (pc := 2251) dL_law__2251 (gzOk_of (by decide)) rfl (gz_vpd (by decide)) ?_
    rw [show J2 0 59 (0 : Int32).toNatClampNeg = gzCvI v0 from hj.trans gz_uj_s0]
    refine gz_iload (pc := 2252) dL_law__2252 rfl ?_
    refine gz_i2l (pc := 2254) dL_law__2254 ?_
    refine gz_lcmp (pc := 2255) dL_law__2255 ?_
    first | rw [show lg_cmp (gzCvI v0) v0.toInt64 = 0 from gz_cmp_self] | rw [gz_cmp_self]
    refine gz_if_eq (pc := 2256) (tgt := 2261) dL_law__2256 (by decide) (fun _ => ?_) (fun c => absurd rfl c)
    refine gz_goto (pc := 2261) (tgt := 2739) dL_law__2261 (by decide) ?_
    exact K _ _ _ _ _ hR (by omega) (by omega)
  | error E =>
    rintro _ _ ⟨kk, hk, rfl, rfl⟩
    obtain ⟨v, I2, J2, hm, ⟨k2, hk2, hth⟩, hj, hR⟩ := hM J
    have ekk : k2 = kk := gzHs_inj (by decide) hk2 hk
    subst ekk
    have hkl : k2 < 2 ^ 20 := gzHs_lt hk (by decide)
    show gzX g 512 (d + 130) mLaw 2213 [some (.inr (.inr (0, 61))), some (.inr (.inr (0, 30))), some (.inr (.inr (0, 47))), some (.inr (.inr (0, 59))), some (.inl (Int32.ofNat i)), none, none] [.inl (Int32.ofNat (k2 + 1))] (gzN, gzR0, I1, J) (z + 1) Q
    refine gz_istore (pc := 2213) dL_law__2213 (by decide) rfl (loc2 := [some (.inr (.inr (0, 61))), some (.inr (.inr (0, 30))), some (.inr (.inr (0, 47))), some (.inr (.inr (0, 59))), some (.inl (Int32.ofNat i)), some (.inl (Int32.ofNat (k2 + 1))), none]) rfl ?_
    refine gz_aload_n (pc := 2215) dL_law__2215 rfl ?_
    refine gz_aload_n (pc := 2216) dL_law__2216 rfl ?_
    refine gz_iload (pc := 2217) dL_law__2217 rfl ?_
    refine gz_iconst (pc := 2219) dL_law__2219 (v := 1) (by decide) ?_
    refine gz_iadd (pc := 2220) dL_law__2220 ?_
    refine gz_sld (j := i + 1) (pc := 2221) dL_law__2221 (Int32.ofNat_add i 1).symm (by omega) ?_
    refine gz_aload_n (pc := 2222) dL_law__2222 rfl ?_
    refine gz_iload (pc := 2223) dL_law__2223 rfl ?_
    refine gz_iconst (pc := 2225) dL_law__2225 (v := 2) (by decide) ?_
    refine gz_iadd (pc := 2226) dL_law__2226 ?_
    refine gz_sld (j := i + 2) (pc := 2227) dL_law__2227 (Int32.ofNat_add i 2).symm (by omega) ?_
    refine gz_V (zy := mX12_ahead) (zc := 0) (d := d + 129) (pc := 2228) (t := 0) (o := 47) (ci := 12) (r := (RX12, TX12, 21)) [.inl (gzXs g (i + 1)), .inl (gzXs g (i + 2))] rfl dL_law__2228 lkL_295 MvX12_ahead rfl (gzOk_of (by decide)) rfl rfl rfl (Or.inr rfl) (fun h => h) (by exact Nat.le_of_ble_eq_true rfl) ?_
    refine gz_useI (d := d + 129) (c_X12_ahead (d := d + 119) hm) ?_
    refine gz_istore (pc := 2231) dL_law__2231 (by decide) rfl (loc2 := [some (.inr (.inr (0, 61))), some (.inr (.inr (0, 30))), some (.inr (.inr (0, 47))), some (.inr (.inr (0, 59))), some (.inl (Int32.ofNat i)), some (.inl (Int32.ofNat (k2 + 1))), some (.inl v)]) rfl ?_
    refine gz_aload_n (pc := 2233) dL_law__2233 rfl ?_
    refine gz_V (zy := mX12_thrown) (zc := 0) (d := d + 129) (pc := 2234) (t := 0) (o := 47) (ci := 12) (r := (RX12, TX12, 21)) [] rfl dL_law__2234 lkL_134 MvX12_thrown rfl (gzOk_of (by decide)) rfl rfl rfl (Or.inr rfl) (fun h => h) (by exact Nat.le_of_ble_eq_true rfl) ?_
    refine gz_useI (d := d + 129) (c_X12_thrown (d := d + 129) rfl) ?_
    dsimp only
    rw [hth]
    refine gz_iload (pc := 2237) dL_law__2237 rfl ?_
    refine gz_ic_eq (pc := 2239) (tgt := 2244) dL_law__2239 (by decide) (fun _ => ?_) (fun c => absurd rfl c)
    refine gz_iload (pc := 2244) dL_law__2244 rfl ?_
    refine gz_if_ne (pc := 2246) (tgt := 2261) dL_law__2246 (by decide) (fun _ => ?_) (fun c => absurd c (gzHs_ne hkl))
    refine gz_goto (pc := 2261) (tgt := 2739) dL_law__2261 (by decide) ?_
    exact K _ _ _ _ _ hR (by omega) (by omega)
set_option maxRecDepth 20000 in
theorem b_47 {g : gzG} {d i z : Nat} {I : gzIT} {J : gzJT} {Q : gzO → gzS → Prop} (hi : i + 6 ≤ g.2.2.2.2.2 1 61) (hz : z + 1 ≤ 512) (h : gzR I I) (K : ∀ (l5 l6 : Option gzV) (I2 : gzIT) (J2 : gzJT) (z2 : Nat), gzR I2 I2 → z ≤ z2 → z2 ≤ z + 1 → gzX g 512 (d + 130) mLaw 2739 [some (.inr (.inr (0, 61))), some (.inr (.inr (0, 30))), some (.inr (.inr (0, 47))), some (.inr (.inr (0, 59))), some (.inl (Int32.ofNat i)), l5, l6] [] (gzN, gzR0, I2, J2) z2 Q) :
    gzX g 512 (d + 130) mLaw 2264 [some (.inr (.inr (0, 61))), some (.inr (.inr (0, 30))), some (.inr (.inr (0, 47))), some (.inr (.inr (0, 59))), some (.inl (Int32.ofNat i)), none, none] [] (gzN, gzR0, I, J) z Q := by
  obtain ⟨e, I1, hf, hE, hM⟩ := L_larder (J := J) (gzXs g (i + 1)) (gzXs g (i + 2)) h
  refine gz_aload_n (pc := 2264) dL_law__2264 rfl ?_
  refine gz_aload_n (pc := 2265) dL_law__2265 rfl ?_
  refine gz_iload (pc := 2266) dL_law__2266 rfl ?_
  refine gz_iconst (pc := 2268) dL_law__2268 (v := 1) (by decide) ?_
  refine gz_iadd (pc := 2269) dL_law__2269 ?_
  refine gz_sld (j := i + 1) (pc := 2270) dL_law__2270 (Int32.ofNat_add i 1).symm (by omega) ?_
  refine gz_aload_n (pc := 2271) dL_law__2271 rfl ?_
  refine gz_iload (pc := 2272) dL_law__2272 rfl ?_
  refine gz_iconst (pc := 2274) dL_law__2274 (v := 2) (by decide) ?_
  refine gz_iadd (pc := 2275) dL_law__2275 ?_
  refine gz_sld (j := i + 2) (pc := 2276) dL_law__2276 (Int32.ofNat_add i 2).symm (by omega) ?_
  refine gz_aload_n (pc := 2277) dL_law__2277 rfl ?_
  refine gz_SH (zy := mL_larder) (hh := hL_larder) (zc := 1) (d := d + 129) (pc := 2278) [.inr (.inr (0, 30)), .inl (gzXs g (i + 1)), .inl (gzXs g (i + 2)), .inr (.inr (0, 59))] rfl dL_law__2278 lhL_larder MhL_larder rfl (Or.inr rfl) (fun _ => by omega) (by exact Nat.le_of_ble_eq_true rfl) ?_
  refine gzCh.mono (h_L_larder (d := d + 68) hf hE) ?_
  cases e with
  | ok v0 =>
    rintro _ _ ⟨rfl, rfl⟩
    obtain ⟨v, I2, J2, hm, hs, hj, hR⟩ := hM (gz_uj J 0 59 0 (gzCvI v0))
    obtain ⟨rfl, hth⟩ := hs
    show gzX g 512 (d + 130) mLaw 2281 [some (.inr (.inr (0, 61))), some (.inr (.inr (0, 30))), some (.inr (.inr (0, 47))), some (.inr (.inr (0, 59))), some (.inl (Int32.ofNat i)), none, none] [.inl 0] (gzN, gzR0, I1, gz_uj J 0 59 0 (gzCvI v0)) (z + 1) Q
    refine gz_istore (pc := 2281) dL_law__2281 (by decide) rfl (loc2 := [some (.inr (.inr (0, 61))), some (.inr (.inr (0, 30))), some (.inr (.inr (0, 47))), some (.inr (.inr (0, 59))), some (.inl (Int32.ofNat i)), some (.inl 0), none]) rfl ?_
    refine gz_aload_n (pc := 2283) dL_law__2283 rfl ?_
    refine gz_aload_n (pc := 2284) dL_law__2284 rfl ?_
    refine gz_iload (pc := 2285) dL_law__2285 rfl ?_
    refine gz_iconst (pc := 2287) dL_law__2287 (v := 1) (by decide) ?_
    refine gz_iadd (pc := 2288) dL_law__2288 ?_
    refine gz_sld (j := i + 1) (pc := 2289) dL_law__2289 (Int32.ofNat_add i 1).symm (by omega) ?_
    refine gz_aload_n (pc := 2290) dL_law__2290 rfl ?_
    refine gz_iload (pc := 2291) dL_law__2291 rfl ?_
    refine gz_iconst (pc := 2293) dL_law__2293 (v := 2) (by decide) ?_
    refine gz_iadd (pc := 2294) dL_law__2294 ?_
    refine gz_sld (j := i + 2) (pc := 2295) dL_law__2295 (Int32.ofNat_add i 2).symm (by omega) ?_
    refine gz_V (zy := mX12_larder) (zc := 0) (d := d + 129) (pc := 2296) (t := 0) (o := 47) (ci := 12) (r := (RX12, TX12, 21)) [.inl (gzXs g (i + 1)), .inl (gzXs g (i + 2))] rfl dL_law__2296 lkL_298 MvX12_larder rfl (gzOk_of (by decide)) rfl rfl rfl (Or.inr rfl) (fun h => h) (by exact Nat.le_of_ble_eq_true rfl) ?_
    refine gz_useI (d := d + 129) (c_X12_larder (d := d + 119) hm) ?_
    refine gz_istore (pc := 2299) dL_law__2299 (by decide) rfl (loc2 := [some (.inr (.inr (0, 61))), some (.inr (.inr (0, 30))), some (.inr (.inr (0, 47))), some (.inr (.inr (0, 59))), some (.inl (Int32.ofNat i)), some (.inl 0), some (.inl v0)]) rfl ?_
    refine gz_aload_n (pc := 2301) dL_law__2301 rfl ?_
    refine gz_V (zy := mX12_thrown) (zc := 0) (d := d + 129) (pc := 2302) (t := 0) (o := 47) (ci := 12) (r := (RX12, TX12, 21)) [] rfl dL_law__2302 lkL_134 MvX12_thrown rfl (gzOk_of (by decide)) rfl rfl rfl (Or.inr rfl) (fun h => h) (by exact Nat.le_of_ble_eq_true rfl) ?_
    refine gz_useI (d := d + 129) (c_X12_thrown (d := d + 129) rfl) ?_
    dsimp only
    rw [hth]
    refine gz_iload (pc := 2305) dL_law__2305 rfl ?_
    refine gz_ic_eq (pc := 2307) (tgt := 2312) dL_law__2307 (by decide) (fun _ => ?_) (fun c => absurd rfl c)
    refine gz_iload (pc := 2312) dL_law__2312 rfl ?_
    refine gz_if_ne (pc := 2314) (tgt := 2329) dL_law__2314 (by decide) (fun c => absurd rfl c) (fun _ => ?_)
    refine gz_aload_n (pc := 2317) dL_law__2317 rfl ?_
    refine gz_iconst (pc := 2318) dL_law__2318 (v := 0) (by decide) ?_
    refine gz_lald (N := 1) (pc := 2319) dL_law__2319 (gzOk_of (by decide)) rfl (gz_vpd (by decide)) ?_
    rw [show J2 0 59 (0 : Int32).toNatClampNeg = gzCvI v0 from hj.trans gz_uj_s0]
    refine gz_iload (pc := 2320) dL_law__2320 rfl ?_
    refine gz_i2l (pc := 2322) dL_law__2322 ?_
    refine gz_lcmp (pc := 2323) dL_law__2323 ?_
    first | rw [show lg_cmp (gzCvI v0) v0.toInt64 = 0 from gz_cmp_self] | rw [gz_cmp_self]
    refine gz_if_eq (pc := 2324) (tgt := 2329) dL_law__2324 (by decide) (fun _ => ?_) (fun c => absurd rfl c)
    refine gz_goto (pc := 2329) (tgt := 2739) dL_law__2329 (by decide) ?_
    exact K _ _ _ _ _ hR (by omega) (by omega)
  | error E =>
    rintro _ _ ⟨kk, hk, rfl, rfl⟩
    obtain ⟨v, I2, J2, hm, ⟨k2, hk2, hth⟩, hj, hR⟩ := hM J
    have ekk : k2 = kk := gzHs_inj (by decide) hk2 hk
    subst ekk
    have hkl : k2 < 2 ^ 20 := gzHs_lt hk (by decide)
    show gzX g 512 (d + 130) mLaw 2281 [some (.inr (.inr (0, 61))), some (.inr (.inr (0, 30))), some (.inr (.inr (0, 47))), some (.inr (.inr (0, 59))), some (.inl (Int32.ofNat i)), none, none] [.inl (Int32.ofNat (k2 + 1))] (gzN, gzR0, I1, J) (z + 1) Q
    refine gz_istore (pc := 2281) dL_law__2281 (by decide) rfl (loc2 := [some (.inr (.inr (0, 61))), some (.inr (.inr (0, 30))), some (.inr (.inr (0, 47))), some (.inr (.inr (0, 59))), some (.inl (Int32.ofNat i)), some (.inl (Int32.ofNat (k2 + 1))), none]) rfl ?_
    refine gz_aload_n (pc := 2283) dL_law__2283 rfl ?_
    refine gz_aload_n (pc := 2284) dL_law__2284 rfl ?_
    refine gz_iload (pc := 2285) dL_law__2285 rfl ?_
    refine gz_iconst (pc := 2287) dL_law__2287 (v := 1) (by decide) ?_
    refine gz_iadd (pc := 2288) dL_law__2288 ?_
    refine gz_sld (j := i + 1) (pc := 2289) dL_law__2289 (Int32.ofNat_add i 1).symm (by omega) ?_
    refine gz_aload_n (pc := 2290) dL_law__2290 rfl ?_
    refine gz_iload (pc := 2291) dL_law__2291 rfl ?_
    refine gz_iconst (pc := 2293) dL_law__2293 (v := 2) (by decide) ?_
    refine gz_iadd (pc := 2294) dL_law__2294 ?_
    refine gz_sld (j := i + 2) (pc := 2295) dL_law__2295 (Int32.ofNat_add i 2).symm (by omega) ?_
    refine gz_V (zy := mX12_larder) (zc := 0) (d := d + 129) (pc := 2296) (t := 0) (o := 47) (ci := 12) (r := (RX12, TX12, 21)) [.inl (gzXs g (i + 1)), .inl (gzXs g (i + 2))] rfl dL_law__2296 lkL_298 MvX12_larder rfl (gzOk_of (by decide)) rfl rfl rfl (Or.inr rfl) (fun h => h) (by exact Nat.le_of_ble_eq_true rfl) ?_
    refine gz_useI (d := d + 129) (c_X12_larder (d := d + 119) hm) ?_
    refine gz_istore (pc := 2299) dL_law__2299 (by decide) rfl (loc2 := [some (.inr (.inr (0, 61))), some (.inr (.inr (0, 30))), some (.inr (.inr (0, 47))), some (.inr (.inr (0, 59))), some (.inl (Int32.ofNat i)), some (.inl (Int32.ofNat (k2 + 1))), some (.inl v)]) rfl ?_
    refine gz_aload_n (pc := 2301) dL_law__2301 rfl ?_
    refine gz_V (zy := mX12_thrown) (zc := 0) (d := d + 129) (pc := 2302) (t := 0) (o := 47) (ci := 12) (r := (RX12, TX12, 21)) [] rfl dL_law__2302 lkL_134 MvX12_thrown rfl (gzOk_of (by decide)) rfl rfl rfl (Or.inr rfl) (fun h => h) (by exact Nat.le_of_ble_eq_true rfl) ?_
    refine gz_useI (d := d + 129) (c_X12_thrown (d := d + 129) rfl) ?_
    dsimp only
    rw [hth]
    refine gz_iload (pc := 2305) dL_law__2305 rfl ?_
    refine gz_ic_eq (pc := 2307) (tgt := 2312) dL_law__2307 (by decide) (fun _ => ?_) (fun c => absurd rfl c)
    refine gz_iload (pc := 2312) dL_law__2312 rfl ?_
    refine gz_if_ne (pc := 2314) (tgt := 2329) dL_law__2314 (by decide) (fun _ => ?_) (fun c => absurd c (gzHs_ne hkl))
    refine gz_goto (pc := 2329) (tgt := 2739) dL_law__2329 (by decide) ?_
    exact K _ _ _ _ _ hR (by omega) (by omega)
set_option maxRecDepth 20000 in
theorem b_48 {g : gzG} {d i z : Nat} {I : gzIT} {J : gzJT} {Q : gzO → gzS → Prop} (hi : i + 6 ≤ g.2.2.2.2.2 1 61) (hz : z + 1 ≤ 512) (h : gzR I I) (K : ∀ (l5 l6 : Option gzV) (I2 : gzIT) (J2 : gzJT) (z2 : Nat), gzR I2 I2 → z ≤ z2 → z2 ≤ z + 1 → gzX g 512 (d + 130) mLaw 2739 [some (.inr (.inr (0, 61))), some (.inr (.inr (0, 30))), some (.inr (.inr (0, 47))), some (.inr (.inr (0, 59))), some (.inl (Int32.ofNat i)), l5, l6] [] (gzN, gzR0, I2, J2) z2 Q) :
    gzX g 512 (d + 130) mLaw 2332 [some (.inr (.inr (0, 61))), some (.inr (.inr (0, 30))), some (.inr (.inr (0, 47))), some (.inr (.inr (0, 59))), some (.inl (Int32.ofNat i)), none, none] [] (gzN, gzR0, I, J) z Q := by
  by_cases hb2 : gzXs g (i + 2) = 0
  · skip
    obtain ⟨e, I1, hf, hE, hM⟩ := L_trial (J := J) (gzXs g (i + 1)) 0 h
    refine gz_aload_n (pc := 2332) dL_law__2332 rfl ?_
    refine gz_aload_n (pc := 2333) dL_law__2333 rfl ?_
    refine gz_iload (pc := 2334) dL_law__2334 rfl ?_
    refine gz_iconst (pc := 2336) dL_law__2336 (v := 1) (by decide) ?_
    refine gz_iadd (pc := 2337) dL_law__2337 ?_
    refine gz_sld (j := i + 1) (pc := 2338) dL_law__2338 (Int32.ofNat_add i 1).symm (by omega) ?_
    refine gz_aload_n (pc := 2339) dL_law__2339 rfl ?_
    refine gz_iload (pc := 2340) dL_law__2340 rfl ?_
    refine gz_iconst (pc := 2342) dL_law__2342 (v := 2) (by decide) ?_
    refine gz_iadd (pc := 2343) dL_law__2343 ?_
    refine gz_sld (j := i + 2) (pc := 2344) dL_law__2344 (Int32.ofNat_add i 2).symm (by omega) ?_
    refine gz_if_eq (pc := 2345) (tgt := 2352) dL_law__2345 (by decide) (fun _ => ?_) (fun c => absurd hb2 c)
    refine gz_iconst (pc := 2352) dL_law__2352 (v := 0) (by decide) ?_
    refine gz_aload_n (pc := 2353) dL_law__2353 rfl ?_
    refine gz_SH (zy := mL_trial) (hh := hL_trial) (zc := 1) (d := d + 129) (pc := 2354) [.inr (.inr (0, 30)), .inl (gzXs g (i + 1)), .inl 0, .inr (.inr (0, 59))] rfl dL_law__2354 lhL_trial MhL_trial rfl (Or.inr rfl) (fun _ => by omega) (by exact Nat.le_of_ble_eq_true rfl) ?_
    refine gzCh.mono (h_L_trial (d := d + 68) hf hE) ?_
    cases e with
    | ok v0 =>
      rintro _ _ ⟨rfl, rfl⟩
      obtain ⟨v, I2, J2, hm, hs, hj, hR⟩ := hM (gz_uj J 0 59 0 (gzCvI v0))
      obtain ⟨rfl, hth⟩ := hs
      show gzX g 512 (d + 130) mLaw 2357 [some (.inr (.inr (0, 61))), some (.inr (.inr (0, 30))), some (.inr (.inr (0, 47))), some (.inr (.inr (0, 59))), some (.inl (Int32.ofNat i)), none, none] [.inl 0] (gzN, gzR0, I1, gz_uj J 0 59 0 (gzCvI v0)) (z + 1) Q
      refine gz_istore (pc := 2357) dL_law__2357 (by decide) rfl (loc2 := [some (.inr (.inr (0, 61))), some (.inr (.inr (0, 30))), some (.inr (.inr (0, 47))), some (.inr (.inr (0, 59))), some (.inl (Int32.ofNat i)), some (.inl 0), none]) rfl ?_
      refine gz_aload_n (pc := 2359) dL_law__2359 rfl ?_
      refine gz_aload_n (pc := 2360) dL_law__2360 rfl ?_
      refine gz_iload (pc := 2361) dL_law__2361 rfl ?_
      refine gz_iconst (pc := 2363) dL_law__2363 (v := 1) (by decide) ?_
      refine gz_iadd (pc := 2364) dL_law__2364 ?_
      refine gz_sld (j := i + 1) (pc := 2365) dL_law__2365 (Int32.ofNat_add i 1).symm (by omega) ?_
      refine gz_aload_n (pc := 2366) dL_law__2366 rfl ?_
      refine gz_iload (pc := 2367) dL_law__2367 rfl ?_
      refine gz_iconst (pc := 2369) dL_law__2369 (v := 2) (by decide) ?_
      refine gz_iadd (pc := 2370) dL_law__2370 ?_
      refine gz_sld (j := i + 2) (pc := 2371) dL_law__2371 (Int32.ofNat_add i 2).symm (by omega) ?_
      refine gz_if_eq (pc := 2372) (tgt := 2379) dL_law__2372 (by decide) (fun _ => ?_) (fun c => absurd hb2 c)
      refine gz_iconst (pc := 2379) dL_law__2379 (v := 0) (by decide) ?_
      refine gz_V (zy := mX12_trial) (zc := 0) (d := d + 129) (pc := 2380) (t := 0) (o := 47) (ci := 12) (r := (RX12, TX12, 21)) [.inl (gzXs g (i + 1)), .inl 0] rfl dL_law__2380 lkL_301 MvX12_trial rfl (gzOk_of (by decide)) rfl rfl rfl (Or.inr rfl) (fun h => h) (by exact Nat.le_of_ble_eq_true rfl) ?_
      refine gz_useI (d := d + 129) (c_X12_trial (d := d + 119) hm) ?_
      refine gz_istore (pc := 2383) dL_law__2383 (by decide) rfl (loc2 := [some (.inr (.inr (0, 61))), some (.inr (.inr (0, 30))), some (.inr (.inr (0, 47))), some (.inr (.inr (0, 59))), some (.inl (Int32.ofNat i)), some (.inl 0), some (.inl v0)]) rfl ?_
      refine gz_aload_n (pc := 2385) dL_law__2385 rfl ?_
      refine gz_V (zy := mX12_thrown) (zc := 0) (d := d + 129) (pc := 2386) (t := 0) (o := 47) (ci := 12) (r := (RX12, TX12, 21)) [] rfl dL_law__2386 lkL_134 MvX12_thrown rfl (gzOk_of (by decide)) rfl rfl rfl (Or.inr rfl) (fun h => h) (by exact Nat.le_of_ble_eq_true rfl) ?_
      refine gz_useI (d := d + 129) (c_X12_thrown (d := d + 129) rfl) ?_
      dsimp only
      rw [hth]
      refine gz_iload (pc := 2389) dL_law__2389 rfl ?_
      refine gz_ic_eq (pc := 2391) (tgt := 2396) dL_law__2391 (by decide) (fun _ => ?_) (fun c => absurd rfl c)
      refine gz_iload (pc := 2396) dL_law__2396 rfl ?_
      refine gz_if_ne (pc := 2398) (tgt := 2413) dL_law__2398 (by decide) (fun c => absurd rfl c) (fun _ => ?_)
      refine gz_aload_n (pc := 2401) dL_law__2401 rfl ?_
      refine gz_iconst (pc := 2402) dL_law__2402 (v := 0) (by decide) ?_
      refine gz_lald (N := 1) (pc := 2403) dL_law__2403 (gzOk_of (by decide)) rfl (gz_vpd (by decide)) ?_
      rw [show J2 0 59 (0 : Int32).toNatClampNeg = gzCvI v0 from hj.trans gz_uj_s0]
      refine gz_iload (pc := 2404) dL_law__2404 rfl ?_
      refine gz_i2l (pc := 2406) dL_law__2406 ?_
      refine gz_lcmp (pc := 2407) dL_law__2407 ?_
      first | rw [show lg_cmp (gzCvI v0) v0.toInt64 = 0 from gz_cmp_self] | rw [gz_cmp_self]
      refine gz_if_eq (pc := 2408) (tgt := 2413) dL_law__2408 (by decide) (fun _ => ?_) (fun c => absurd rfl c)
      refine gz_goto (pc := 2413) (tgt := 2739) dL_law__2413 (by decide) ?_
      exact K _ _ _ _ _ hR (by omega) (by omega)
    | error E =>
      rintro _ _ ⟨kk, hk, rfl, rfl⟩
      obtain ⟨v, I2, J2, hm, ⟨k2, hk2, hth⟩, hj, hR⟩ := hM J
      have ekk : k2 = kk := gzHs_inj (by decide) hk2 hk
      subst ekk
      have hkl : k2 < 2 ^ 20 := gzHs_lt hk (by decide)
      show gzX g 512 (d + 130) mLaw 2357 [some (.inr (.inr (0, 61))), some (.inr (.inr (0, 30))), some (.inr (.inr (0, 47))), some (.inr (.inr (0, 59))), some (.inl (Int32.ofNat i)), none, none] [.inl (Int32.ofNat (k2 + 1))] (gzN, gzR0, I1, J) (z + 1) Q
      refine gz_istore (pc := 2357) dL_law__2357 (by decide) rfl (loc2 := [some (.inr (.inr (0, 61))), some (.inr (.inr (0, 30))), some (.inr (.inr (0, 47))), some (.inr (.inr (0, 59))), some (.inl (Int32.ofNat i)), some (.inl (Int32.ofNat (k2 + 1))), none]) rfl ?_
      refine gz_aload_n (pc := 2359) dL_law__2359 rfl ?_
      refine gz_aload_n (pc := 2360) dL_law__2360 rfl ?_
      refine gz_iload (pc := 2361) dL_law__2361 rfl ?_
      refine gz_iconst (pc := 2363) dL_law__2363 (v := 1) (by decide) ?_
      refine gz_iadd (pc := 2364) dL_law__2364 ?_
      refine gz_sld (j := i + 1) (pc := 2365) dL_law__2365 (Int32.ofNat_add i 1).symm (by omega) ?_
      refine gz_aload_n (pc := 2366) dL_law__2366 rfl ?_
      refine gz_iload (pc := 2367) dL_law__2367 rfl ?_
      refine gz_iconst (pc := 2369) dL_law__2369 (v := 2) (by decide) ?_
      refine gz_iadd (pc := 2370) dL_law__2370 ?_
      refine gz_sld (j := i + 2) (pc := 2371) dL_law__2371 (Int32.ofNat_add i 2).symm (by omega) ?_
      refine gz_if_eq (pc := 2372) (tgt := 2379) dL_law__2372 (by decide) (fun _ => ?_) (fun c => absurd hb2 c)
      refine gz_iconst (pc := 2379) dL_law__2379 (v := 0) (by decide) ?_
      refine gz_V (zy := mX12_trial) (zc := 0) (d := d + 129) (pc := 2380) (t := 0) (o := 47) (ci := 12) (r := (RX12, TX12, 21)) [.inl (gzXs g (i + 1)), .inl 0] rfl dL_law__2380 lkL_301 MvX12_trial rfl (gzOk_of (by decide)) rfl rfl rfl (Or.inr rfl) (fun h => h) (by exact Nat.le_of_ble_eq_true rfl) ?_
      refine gz_useI (d := d + 129) (c_X12_trial (d := d + 119) hm) ?_
      refine gz_istore (pc := 2383) dL_law__2383 (by decide) rfl (loc2 := [some (.inr (.inr (0, 61))), some (.inr (.inr (0, 30))), some (.inr (.inr (0, 47))), some (.inr (.inr (0, 59))), some (.inl (Int32.ofNat i)), some (.inl (Int32.ofNat (k2 + 1))), some (.inl v)]) rfl ?_
      refine gz_aload_n (pc := 2385) dL_law__2385 rfl ?_
      refine gz_V (zy := mX12_thrown) (zc := 0) (d := d + 129) (pc := 2386) (t := 0) (o := 47) (ci := 12) (r := (RX12, TX12, 21)) [] rfl dL_law__2386 lkL_134 MvX12_thrown rfl (gzOk_of (by decide)) rfl rfl rfl (Or.inr rfl) (fun h => h) (by exact Nat.le_of_ble_eq_true rfl) ?_
      refine gz_useI (d := d + 129) (c_X12_thrown (d := d + 129) rfl) ?_
      dsimp only
      rw [hth]
      refine gz_iload (pc := 2389) dL_law__2389 rfl ?_
      refine gz_ic_eq (pc := 2391) (tgt := 2396) dL_law__2391 (by decide) (fun _ => ?_) (fun c => absurd rfl c)
      refine gz_iload (pc := 2396) dL_law__2396 rfl ?_
      refine gz_if_ne (pc := 2398) (tgt := 2413) dL_law__2398 (by decide) (fun _ => ?_) (fun c => absurd c (gzHs_ne hkl))
      refine gz_goto (pc := 2413) (tgt := 2739) dL_law__2413 (by decide) ?_
      exact K _ _ _ _ _ hR (by omega) (by omega)
  · skip
    obtain ⟨e, I1, hf, hE, hM⟩ := L_trial (J := J) (gzXs g (i + 1)) 1 h
    refine gz_aload_n (pc := 2332) dL_law__2332 rfl ?_
    refine gz_aload_n (pc := 2333) dL_law__2333 rfl ?_
    refine gz_iload (pc := 2334) dL_law__2334 rfl ?_
    refine gz_iconst (pc := 2336) dL_law__2336 (v := 1) (by decide) ?_
    refine gz_iadd (pc := 2337) dL_law__2337 ?_
    refine gz_sld (j := i + 1) (pc := 2338) dL_law__2338 (Int32.ofNat_add i 1).symm (by omega) ?_
    refine gz_aload_n (pc := 2339) dL_law__2339 rfl ?_
    refine gz_iload (pc := 2340) dL_law__2340 rfl ?_
    refine gz_iconst (pc := 2342) dL_law__2342 (v := 2) (by decide) ?_
    refine gz_iadd (pc := 2343) dL_law__2343 ?_
    refine gz_sld (j := i + 2) (pc := 2344) dL_law__2344 (Int32.ofNat_add i 2).symm (by omega) ?_
    refine gz_if_eq (pc := 2345) (tgt := 2352) dL_law__2345 (by decide) (fun c => absurd c hb2) (fun _ => ?_)
    refine gz_iconst (pc := 2348) dL_law__2348 (v := 1) (by decide) ?_
    refine gz_goto (pc := 2349) (tgt := 2353) dL_law__2349 (by decide) ?_
    refine gz_aload_n (pc := 2353) dL_law__2353 rfl ?_
    refine gz_SH (zy := mL_trial) (hh := hL_trial) (zc := 1) (d := d + 129) (pc := 2354) [.inr (.inr (0, 30)), .inl (gzXs g (i + 1)), .inl 1, .inr (.inr (0, 59))] rfl dL_law__2354 lhL_trial MhL_trial rfl (Or.inr rfl) (fun _ => by omega) (by exact Nat.le_of_ble_eq_true rfl) ?_
    refine gzCh.mono (h_L_trial (d := d + 68) hf hE) ?_
    cases e with
    | ok v0 =>
      rintro _ _ ⟨rfl, rfl⟩
      obtain ⟨v, I2, J2, hm, hs, hj, hR⟩ := hM (gz_uj J 0 59 0 (gzCvI v0))
      obtain ⟨rfl, hth⟩ := hs
      show gzX g 512 (d + 130) mLaw 2357 [some (.inr (.inr (0, 61))), some (.inr (.inr (0, 30))), some (.inr (.inr (0, 47))), some (.inr (.inr (0, 59))), some (.inl (Int32.ofNat i)), none, none] [.inl 0] (gzN, gzR0, I1, gz_uj J 0 59 0 (gzCvI v0)) (z + 1) Q
      refine gz_istore (pc := 2357) dL_law__2357 (by decide) rfl (loc2 := [some (.inr (.inr (0, 61))), some (.inr (.inr (0, 30))), some (.inr (.inr (0, 47))), some (.inr (.inr (0, 59))), some (.inl (Int32.ofNat i)), some (.inl 0), none]) rfl ?_
      refine gz_aload_n (pc := 2359) dL_law__2359 rfl ?_
      refine gz_aload_n (pc := 2360) dL_law__2360 rfl ?_
      refine gz_iload (pc := 2361) dL_law__2361 rfl ?_
      refine gz_iconst (pc := 2363) dL_law__2363 (v := 1) (by decide) ?_
      refine gz_iadd (pc := 2364) dL_law__2364 ?_
      refine gz_sld (j := i + 1) (pc := 2365) dL_law__2365 (Int32.ofNat_add i 1).symm (by omega) ?_
      refine gz_aload_n (pc := 2366) dL_law__2366 rfl ?_
      refine gz_iload (pc := 2367) dL_law__2367 rfl ?_
      refine gz_iconst (pc := 2369) dL_law__2369 (v := 2) (by decide) ?_
      refine gz_iadd (pc := 2370) dL_law__2370 ?_
      refine gz_sld (j := i + 2) (pc := 2371) dL_law__2371 (Int32.ofNat_add i 2).symm (by omega) ?_
      refine gz_if_eq (pc := 2372) (tgt := 2379) dL_law__2372 (by decide) (fun c => absurd c hb2) (fun _ => ?_)
      refine gz_iconst (pc := 2375) dL_law__2375 (v := 1) (by decide) ?_
      refine gz_goto (pc := 2376) (tgt := 2380) dL_law__2376 (by decide) ?_
      refine gz_V (zy := mX12_trial) (zc := 0) (d := d + 129) (pc := 2380) (t := 0) (o := 47) (ci := 12) (r := (RX12, TX12, 21)) [.inl (gzXs g (i + 1)), .inl 1] rfl dL_law__2380 lkL_301 MvX12_trial rfl (gzOk_of (by decide)) rfl rfl rfl (Or.inr rfl) (fun h => h) (by exact Nat.le_of_ble_eq_true rfl) ?_
      refine gz_useI (d := d + 129) (c_X12_trial (d := d + 119) hm) ?_
      refine gz_istore (pc := 2383) dL_law__2383 (by decide) rfl (loc2 := [some (.inr (.inr (0, 61))), some (.inr (.inr (0, 30))), some (.inr (.inr (0, 47))), some (.inr (.inr (0, 59))), some (.inl (Int32.ofNat i)), some (.inl 0), some (.inl v0)]) rfl ?_
      refine gz_aload_n (pc := 2385) dL_law__2385 rfl ?_
      refine gz_V (zy := mX12_thrown) (zc := 0) (d := d + 129) (pc := 2386) (t := 0) (o := 47) (ci := 12) (r := (RX12, TX12, 21)) [] rfl dL_law__2386 lkL_134 MvX12_thrown rfl (gzOk_of (by decide)) rfl rfl rfl (Or.inr rfl) (fun h => h) (by exact Nat.le_of_ble_eq_true rfl) ?_
      refine gz_useI (d := d + 129) (c_X12_thrown (d := d + 129) rfl) ?_
      dsimp only
      rw [hth]
      refine gz_iload (pc := 2389) dL_law__2389 rfl ?_
      refine gz_ic_eq (pc := 2391) (tgt := 2396) dL_law__2391 (by decide) (fun _ => ?_) (fun c => absurd rfl c)
      refine gz_iload (pc := 2396) dL_law__2396 rfl ?_
      refine gz_if_ne (pc := 2398) (tgt := 2413) dL_law__2398 (by decide) (fun c => absurd rfl c) (fun _ => ?_)
      refine gz_aload_n (pc := 2401) dL_law__2401 rfl ?_
      refine gz_iconst (pc := 2402) dL_law__2402 (v := 0) (by decide) ?_
      refine gz_lald (N := 1) (pc := 2403) dL_law__2403 (gzOk_of (by decide)) rfl (gz_vpd (by decide)) ?_
      rw [show J2 0 59 (0 : Int32).toNatClampNeg = gzCvI v0 from hj.trans gz_uj_s0]
      refine gz_iload (pc := 2404) dL_law__2404 rfl ?_
      refine gz_i2l (pc := 2406) dL_law__2406 ?_
      refine gz_lcmp (pc := 2407) dL_law__2407 ?_
      first | rw [show lg_cmp (gzCvI v0) v0.toInt64 = 0 from gz_cmp_self] | rw [gz_cmp_self]
      refine gz_if_eq (pc := 2408) (tgt := 2413) dL_law__2408 (by decide) (fun _ => ?_) (fun c => absurd rfl c)
      refine gz_goto (pc := 2413) (tgt := 2739) dL_law__2413 (by decide) ?_
      exact K _ _ _ _ _ hR (by omega) (by omega)
    | error E =>
      rintro _ _ ⟨kk, hk, rfl, rfl⟩
      obtain ⟨v, I2, J2, hm, ⟨k2, hk2, hth⟩, hj, hR⟩ := hM J
      have ekk : k2 = kk := gzHs_inj (by decide) hk2 hk
      subst ekk
      have hkl : k2 < 2 ^ 20 := gzHs_lt hk (by decide)
      show gzX g 512 (d + 130) mLaw 2357 [some (.inr (.inr (0, 61))), some (.inr (.inr (0, 30))), some (.inr (.inr (0, 47))), some (.inr (.inr (0, 59))), some (.inl (Int32.ofNat i)), none, none] [.inl (Int32.ofNat (k2 + 1))] (gzN, gzR0, I1, J) (z + 1) Q
      refine gz_istore (pc := 2357) dL_law__2357 (by decide) rfl (loc2 := [some (.inr (.inr (0, 61))), some (.inr (.inr (0, 30))), some (.inr (.inr (0, 47))), some (.inr (.inr (0, 59))), some (.inl (Int32.ofNat i)), some (.inl (Int32.ofNat (k2 + 1))), none]) rfl ?_
      refine gz_aload_n (pc := 2359) dL_law__2359 rfl ?_
      refine gz_aload_n (pc := 2360) dL_law__2360 rfl ?_
      refine gz_iload (pc := 2361) dL_law__2361 rfl ?_
      refine gz_iconst (pc := 2363) dL_law__2363 (v := 1) (by decide) ?_
      refine gz_iadd (pc := 2364) dL_law__2364 ?_
      refine gz_sld (j := i + 1) (pc := 2365) dL_law__2365 (Int32.ofNat_add i 1).symm (by omega) ?_
      refine gz_aload_n (pc := 2366) dL_law__2366 rfl ?_
      refine gz_iload (pc := 2367) dL_law__2367 rfl ?_
      refine gz_iconst (pc := 2369) dL_law__2369 (v := 2) (by decide) ?_
      refine gz_iadd (pc := 2370) dL_law__2370 ?_
      refine gz_sld (j := i + 2) (pc := 2371) dL_law__2371 (Int32.ofNat_add i 2).symm (by omega) ?_
      refine gz_if_eq (pc := 2372) (tgt := 2379) dL_law__2372 (by decide) (fun c => absurd c hb2) (fun _ => ?_)
      refine gz_iconst (pc := 2375) dL_law__2375 (v := 1) (by decide) ?_
      refine gz_goto (pc := 2376) (tgt := 2380) dL_law__2376 (by decide) ?_
      refine gz_V (zy := mX12_trial) (zc := 0) (d := d + 129) (pc := 2380) (t := 0) (o := 47) (ci := 12) (r := (RX12, TX12, 21)) [.inl (gzXs g (i + 1)), .inl 1] rfl dL_law__2380 lkL_301 MvX12_trial rfl (gzOk_of (by decide)) rfl rfl rfl (Or.inr rfl) (fun h => h) (by exact Nat.le_of_ble_eq_true rfl) ?_
      refine gz_useI (d := d + 129) (c_X12_trial (d := d + 119) hm) ?_
      refine gz_istore (pc := 2383) dL_law__2383 (by decide) rfl (loc2 := [some (.inr (.inr (0, 61))), some (.inr (.inr (0, 30))), some (.inr (.inr (0, 47))), some (.inr (.inr (0, 59))), some (.inl (Int32.ofNat i)), some (.inl (Int32.ofNat (k2 + 1))), some (.inl v)]) rfl ?_
      refine gz_aload_n (pc := 2385) dL_law__2385 rfl ?_
      refine gz_V (zy := mX12_thrown) (zc := 0) (d := d + 129) (pc := 2386) (t := 0) (o := 47) (ci := 12) (r := (RX12, TX12, 21)) [] rfl dL_law__2386 lkL_134 MvX12_thrown rfl (gzOk_of (by decide)) rfl rfl rfl (Or.inr rfl) (fun h => h) (by exact Nat.le_of_ble_eq_true rfl) ?_
      refine gz_useI (d := d + 129) (c_X12_thrown (d := d + 129) rfl) ?_
      dsimp only
      rw [hth]
      refine gz_iload (pc := 2389) dL_law__2389 rfl ?_
      refine gz_ic_eq (pc := 2391) (tgt := 2396) dL_law__2391 (by decide) (fun _ => ?_) (fun c => absurd rfl c)
      refine gz_iload (pc := 2396) dL_law__2396 rfl ?_
      refine gz_if_ne (pc := 2398) (tgt := 2413) dL_law__2398 (by decide) (fun _ => ?_) (fun c => absurd c (gzHs_ne hkl))
      refine gz_goto (pc := 2413) (tgt := 2739) dL_law__2413 (by decide) ?_
      exact K _ _ _ _ _ hR (by omega) (by omega)
set_option maxRecDepth 20000 in
theorem b_49 {g : gzG} {d i z : Nat} {I : gzIT} {J : gzJT} {Q : gzO → gzS → Prop} (hi : i + 6 ≤ g.2.2.2.2.2 1 61) (hz : z + 1 ≤ 512) (h : gzR I I) (K : ∀ (l5 l6 : Option gzV) (I2 : gzIT) (J2 : gzJT) (z2 : Nat), gzR I2 I2 → z ≤ z2 → z2 ≤ z + 1 → gzX g 512 (d + 130) mLaw 2739 [some (.inr (.inr (0, 61))), some (.inr (.inr (0, 30))), some (.inr (.inr (0, 47))), some (.inr (.inr (0, 59))), some (.inl (Int32.ofNat i)), l5, l6] [] (gzN, gzR0, I2, J2) z2 Q) :
    gzX g 512 (d + 130) mLaw 2416 [some (.inr (.inr (0, 61))), some (.inr (.inr (0, 30))), some (.inr (.inr (0, 47))), some (.inr (.inr (0, 59))), some (.inl (Int32.ofNat i)), none, none] [] (gzN, gzR0, I, J) z Q := by
  by_cases hb2 : gzXs g (i + 2) = 0
  · skip
    obtain ⟨e, I1, hf, hE, hM⟩ := L_span (J := J) (gzXs g (i + 1)) 0 h
    refine gz_aload_n (pc := 2416) dL_law__2416 rfl ?_
    refine gz_aload_n (pc := 2417) dL_law__2417 rfl ?_
    refine gz_iload (pc := 2418) dL_law__2418 rfl ?_
    refine gz_iconst (pc := 2420) dL_law__2420 (v := 1) (by decide) ?_
    refine gz_iadd (pc := 2421) dL_law__2421 ?_
    refine gz_sld (j := i + 1) (pc := 2422) dL_law__2422 (Int32.ofNat_add i 1).symm (by omega) ?_
    refine gz_aload_n (pc := 2423) dL_law__2423 rfl ?_
    refine gz_iload (pc := 2424) dL_law__2424 rfl ?_
    refine gz_iconst (pc := 2426) dL_law__2426 (v := 2) (by decide) ?_
    refine gz_iadd (pc := 2427) dL_law__2427 ?_
    refine gz_sld (j := i + 2) (pc := 2428) dL_law__2428 (Int32.ofNat_add i 2).symm (by omega) ?_
    refine gz_if_eq (pc := 2429) (tgt := 2436) dL_law__2429 (by decide) (fun _ => ?_) (fun c => absurd hb2 c)
    refine gz_iconst (pc := 2436) dL_law__2436 (v := 0) (by decide) ?_
    refine gz_aload_n (pc := 2437) dL_law__2437 rfl ?_
    refine gz_SH (zy := mL_span) (hh := hL_span) (zc := 1) (d := d + 129) (pc := 2438) [.inr (.inr (0, 30)), .inl (gzXs g (i + 1)), .inl 0, .inr (.inr (0, 59))] rfl dL_law__2438 lhL_span MhL_span rfl (Or.inr rfl) (fun _ => by omega) (by exact Nat.le_of_ble_eq_true rfl) ?_
    refine gzCh.mono (h_L_span (d := d + 68) hf hE) ?_
    cases e with
    | ok v0 =>
      rintro _ _ ⟨rfl, rfl⟩
      obtain ⟨v, I2, J2, hm, hs, hj, hR⟩ := hM (gz_uj J 0 59 0 (gzCvI v0))
      obtain ⟨rfl, hth⟩ := hs
      show gzX g 512 (d + 130) mLaw 2441 [some (.inr (.inr (0, 61))), some (.inr (.inr (0, 30))), some (.inr (.inr (0, 47))), some (.inr (.inr (0, 59))), some (.inl (Int32.ofNat i)), none, none] [.inl 0] (gzN, gzR0, I1, gz_uj J 0 59 0 (gzCvI v0)) (z + 1) Q
      refine gz_istore (pc := 2441) dL_law__2441 (by decide) rfl (loc2 := [some (.inr (.inr (0, 61))), some (.inr (.inr (0, 30))), some (.inr (.inr (0, 47))), some (.inr (.inr (0, 59))), some (.inl (Int32.ofNat i)), some (.inl 0), none]) rfl ?_
      refine gz_aload_n (pc := 2443) dL_law__2443 rfl ?_
      refine gz_aload_n (pc := 2444) dL_law__2444 rfl ?_
      refine gz_iload (pc := 2445) dL_law__2445 rfl ?_
      refine gz_iconst (pc := 2447) dL_law__2447 (v := 1) (by decide) ?_
      refine gz_iadd (pc := 2448) dL_law__2448 ?_
      refine gz_sld (j := i + 1) (pc := 2449) dL_law__2449 (Int32.ofNat_add i 1).symm (by omega) ?_
      refine gz_aload_n (pc := 2450) dL_law__2450 rfl ?_
      refine gz_iload (pc := 2451) dL_law__2451 rfl ?_
      refine gz_iconst (pc := 2453) dL_law__2453 (v := 2) (by decide) ?_
      refine gz_iadd (pc := 2454) dL_law__2454 ?_
      refine gz_sld (j := i + 2) (pc := 2455) dL_law__2455 (Int32.ofNat_add i 2).symm (by omega) ?_
      refine gz_if_eq (pc := 2456) (tgt := 2463) dL_law__2456 (by decide) (fun _ => ?_) (fun c => absurd hb2 c)
      refine gz_iconst (pc := 2463) dL_law__2463 (v := 0) (by decide) ?_
      refine gz_V (zy := mX12_span) (zc := 0) (d := d + 129) (pc := 2464) (t := 0) (o := 47) (ci := 12) (r := (RX12, TX12, 21)) [.inl (gzXs g (i + 1)), .inl 0] rfl dL_law__2464 lkL_304 MvX12_span rfl (gzOk_of (by decide)) rfl rfl rfl (Or.inr rfl) (fun h => h) (by exact Nat.le_of_ble_eq_true rfl) ?_
      refine gz_useI (d := d + 129) (c_X12_span (d := d + 119) hm) ?_
      refine gz_istore (pc := 2467) dL_law__2467 (by decide) rfl (loc2 := [some (.inr (.inr (0, 61))), some (.inr (.inr (0, 30))), some (.inr (.inr (0, 47))), some (.inr (.inr (0, 59))), some (.inl (Int32.ofNat i)), some (.inl 0), some (.inl v0)]) rfl ?_
      refine gz_aload_n (pc := 2469) dL_law__2469 rfl ?_
      refine gz_V (zy := mX12_thrown) (zc := 0) (d := d + 129) (pc := 2470) (t := 0) (o := 47) (ci := 12) (r := (RX12, TX12, 21)) [] rfl dL_law__2470 lkL_134 MvX12_thrown rfl (gzOk_of (by decide)) rfl rfl rfl (Or.inr rfl) (fun h => h) (by exact Nat.le_of_ble_eq_true rfl) ?_
      refine gz_useI (d := d + 129) (c_X12_thrown (d := d + 129) rfl) ?_
      dsimp only
      rw [hth]
      refine gz_iload (pc := 2473) dL_law__2473 rfl ?_
      refine gz_ic_eq (pc := 2475) (tgt := 2480) dL_law__2475 (by decide) (fun _ => ?_) (fun c => absurd rfl c)
      refine gz_iload (pc := 2480) dL_law__2480 rfl ?_
      refine gz_if_ne (pc := 2482) (tgt := 2497) dL_law__2482 (by decide) (fun c => absurd rfl c) (fun _ => ?_)
      refine gz_aload_n (pc := 2485) dL_law__2485 rfl ?_
      refine gz_iconst (pc := 2486) dL_law__2486 (v := 0) (by decide) ?_
      refine gz_lald (N := 1) (pc := 2487) dL_law__2487 (gzOk_of (by decide)) rfl (gz_vpd (by decide)) ?_
      rw [show J2 0 59 (0 : Int32).toNatClampNeg = gzCvI v0 from hj.trans gz_uj_s0]
      refine gz_iload (pc := 2488) dL_law__2488 rfl ?_
      refine gz_i2l (pc := 2490) dL_law__2490 ?_
      refine gz_lcmp (pc := 2491) dL_law__2491 ?_
      first | rw [show lg_cmp (gzCvI v0) v0.toInt64 = 0 from gz_cmp_self] | rw [gz_cmp_self]
      refine gz_if_eq (pc := 2492) (tgt := 2497) dL_law__2492 (by decide) (fun _ => ?_) (fun c => absurd rfl c)
      refine gz_goto (pc := 2497) (tgt := 2739) dL_law__2497 (by decide) ?_
      exact K _ _ _ _ _ hR (by omega) (by omega)
    | error E =>
      rintro _ _ ⟨kk, hk, rfl, rfl⟩
      obtain ⟨v, I2, J2, hm, ⟨k2, hk2, hth⟩, hj, hR⟩ := hM J
      have ekk : k2 = kk := gzHs_inj (by decide) hk2 hk
      subst ekk
      have hkl : k2 < 2 ^ 20 := gzHs_lt hk (by decide)
      show gzX g 512 (d + 130) mLaw 2441 [some (.inr (.inr (0, 61))), some (.inr (.inr (0, 30))), some (.inr (.inr (0, 47))), some (.inr (.inr (0, 59))), some (.inl (Int32.ofNat i)), none, none] [.inl (Int32.ofNat (k2 + 1))] (gzN, gzR0, I1, J) (z + 1) Q
      refine gz_istore (pc := 2441) dL_law__2441 (by decide) rfl (loc2 := [some (.inr (.inr (0, 61))), some (.inr (.inr (0, 30))), some (.inr (.inr (0, 47))), some (.inr (.inr (0, 59))), some (.inl (Int32.ofNat i)), some (.inl (Int32.ofNat (k2 + 1))), none]) rfl ?_
      refine gz_aload_n (pc := 2443) dL_law__2443 rfl ?_
      refine gz_aload_n (pc := 2444) dL_law__2444 rfl ?_
      refine gz_iload (pc := 2445) dL_law__2445 rfl ?_
      refine gz_iconst (pc := 2447) dL_law__2447 (v := 1) (by decide) ?_
      refine gz_iadd (pc := 2448) dL_law__2448 ?_
      refine gz_sld (j := i + 1) (pc := 2449) dL_law__2449 (Int32.ofNat_add i 1).symm (by omega) ?_
      refine gz_aload_n (pc := 2450) dL_law__2450 rfl ?_
      refine gz_iload (pc := 2451) dL_law__2451 rfl ?_
      refine gz_iconst (pc := 2453) dL_law__2453 (v := 2) (by decide) ?_
      refine gz_iadd (pc := 2454) dL_law__2454 ?_
      refine gz_sld (j := i + 2) (pc := 2455) dL_law__2455 (Int32.ofNat_add i 2).symm (by omega) ?_
      refine gz_if_eq (pc := 2456) (tgt := 2463) dL_law__2456 (by decide) (fun _ => ?_) (fun c => absurd hb2 c)
      refine gz_iconst (pc := 2463) dL_law__2463 (v := 0) (by decide) ?_
      refine gz_V (zy := mX12_span) (zc := 0) (d := d + 129) (pc := 2464) (t := 0) (o := 47) (ci := 12) (r := (RX12, TX12, 21)) [.inl (gzXs g (i + 1)), .inl 0] rfl dL_law__2464 lkL_304 MvX12_span rfl (gzOk_of (by decide)) rfl rfl rfl (Or.inr rfl) (fun h => h) (by exact Nat.le_of_ble_eq_true rfl) ?_
      refine gz_useI (d := d + 129) (c_X12_span (d := d + 119) hm) ?_
      refine gz_istore (pc := 2467) dL_law__2467 (by decide) rfl (loc2 := [some (.inr (.inr (0, 61))), some (.inr (.inr (0, 30))), some (.inr (.inr (0, 47))), some (.inr (.inr (0, 59))), some (.inl (Int32.ofNat i)), some (.inl (Int32.ofNat (k2 + 1))), some (.inl v)]) rfl ?_
      refine gz_aload_n (pc := 2469) dL_law__2469 rfl ?_
      refine gz_V (zy := mX12_thrown) (zc := 0) (d := d + 129) (pc := 2470) (t := 0) (o := 47) (ci := 12) (r := (RX12, TX12, 21)) [] rfl dL_law__2470 lkL_134 MvX12_thrown rfl (gzOk_of (by decide)) rfl rfl rfl (Or.inr rfl) (fun h => h) (by exact Nat.le_of_ble_eq_true rfl) ?_
      refine gz_useI (d := d + 129) (c_X12_thrown (d := d + 129) rfl) ?_
      dsimp only
      rw [hth]
      refine gz_iload (pc := 2473) dL_law__2473 rfl ?_
      refine gz_ic_eq (pc := 2475) (tgt := 2480) dL_law__2475 (by decide) (fun _ => ?_) (fun c => absurd rfl c)
      refine gz_iload (pc := 2480) dL_law__2480 rfl ?_
      refine gz_if_ne (pc := 2482) (tgt := 2497) dL_law__2482 (by decide) (fun _ => ?_) (fun c => absurd c (gzHs_ne hkl))
      refine gz_goto (pc := 2497) (tgt := 2739) dL_law__2497 (by decide) ?_
      exact K _ _ _ _ _ hR (by omega) (by omega)
  · skip
    obtain ⟨e, I1, hf, hE, hM⟩ := L_span (J := J) (gzXs g (i + 1)) 1 h
    refine gz_aload_n (pc := 2416) dL_law__2416 rfl ?_
    refine gz_aload_n (pc := 2417) dL_law__2417 rfl ?_
    refine gz_iload (pc := 2418) dL_law__2418 rfl ?_
    refine gz_iconst (pc := 2420) dL_law__2420 (v := 1) (by decide) ?_
    refine gz_iadd (pc := 2421) dL_law__2421 ?_
    refine gz_sld (j := i + 1) (pc := 2422) dL_law__2422 (Int32.ofNat_add i 1).symm (by omega) ?_
    refine gz_aload_n (pc := 2423) dL_law__2423 rfl ?_
    refine gz_iload (pc := 2424) dL_law__2424 rfl ?_
    refine gz_iconst (pc := 2426) dL_law__2426 (v := 2) (by decide) ?_
    refine gz_iadd (pc := 2427) dL_law__2427 ?_
    refine gz_sld (j := i + 2) (pc := 2428) dL_law__2428 (Int32.ofNat_add i 2).symm (by omega) ?_
    refine gz_if_eq (pc := 2429) (tgt := 2436) dL_law__2429 (by decide) (fun c => absurd c hb2) (fun _ => ?_)
    refine gz_iconst (pc := 2432) dL_law__2432 (v := 1) (by decide) ?_
    refine gz_goto (pc := 2433) (tgt := 2437) dL_law__2433 (by decide) ?_
    refine gz_aload_n (pc := 2437) dL_law__2437 rfl ?_
    refine gz_SH (zy := mL_span) (hh := hL_span) (zc := 1) (d := d + 129) (pc := 2438) [.inr (.inr (0, 30)), .inl (gzXs g (i + 1)), .inl 1, .inr (.inr (0, 59))] rfl dL_law__2438 lhL_span MhL_span rfl (Or.inr rfl) (fun _ => by omega) (by exact Nat.le_of_ble_eq_true rfl) ?_
    refine gzCh.mono (h_L_span (d := d + 68) hf hE) ?_
    cases e with
    | ok v0 =>
      rintro _ _ ⟨rfl, rfl⟩
      obtain ⟨v, I2, J2, hm, hs, hj, hR⟩ := hM (gz_uj J 0 59 0 (gzCvI v0))
      obtain ⟨rfl, hth⟩ := hs
      show gzX g 512 (d + 130) mLaw 2441 [some (.inr (.inr (0, 61))), some (.inr (.inr (0, 30))), some (.inr (.inr (0, 47))), some (.inr (.inr (0, 59))), some (.inl (Int32.ofNat i)), none, none] [.inl 0] (gzN, gzR0, I1, gz_uj J 0 59 0 (gzCvI v0)) (z + 1) Q
      refine gz_istore (pc := 2441) dL_law__2441 (by decide) rfl (loc2 := [some (.inr (.inr (0, 61))), some (.inr (.inr (0, 30))), some (.inr (.inr (0, 47))), some (.inr (.inr (0, 59))), some (.inl (Int32.ofNat i)), some (.inl 0), none]) rfl ?_
      refine gz_aload_n (pc := 2443) dL_law__2443 rfl ?_
      refine gz_aload_n (pc := 2444) dL_law__2444 rfl ?_
      refine gz_iload (pc := 2445) dL_law__2445 rfl ?_
      refine gz_iconst (pc := 2447) dL_law__2447 (v := 1) (by decide) ?_
      refine gz_iadd (pc := 2448) dL_law__2448 ?_
      refine gz_sld (j := i + 1) (pc := 2449) dL_law__2449 (Int32.ofNat_add i 1).symm (by omega) ?_
      refine gz_aload_n (pc := 2450) dL_law__2450 rfl ?_
      refine gz_iload (pc := 2451) dL_law__2451 rfl ?_
      refine gz_iconst (pc := 2453) dL_law__2453 (v := 2) (by decide) ?_
      refine gz_iadd (pc := 2454) dL_law__2454 ?_
      refine gz_sld (j := i + 2) (pc := 2455) dL_law__2455 (Int32.ofNat_add i 2).symm (by omega) ?_
      refine gz_if_eq (pc := 2456) (tgt := 2463) dL_law__2456 (by decide) (fun c => absurd c hb2) (fun _ => ?_)
      refine gz_iconst (pc := 2459) dL_law__2459 (v := 1) (by decide) ?_
      refine gz_goto (pc := 2460) (tgt := 2464) dL_law__2460 (by decide) ?_
      refine gz_V (zy := mX12_span) (zc := 0) (d := d + 129) (pc := 2464) (t := 0) (o := 47) (ci := 12) (r := (RX12, TX12, 21)) [.inl (gzXs g (i + 1)), .inl 1] rfl dL_law__2464 lkL_304 MvX12_span rfl (gzOk_of (by decide)) rfl rfl rfl (Or.inr rfl) (fun h => h) (by exact Nat.le_of_ble_eq_true rfl) ?_
      refine gz_useI (d := d + 129) (c_X12_span (d := d + 119) hm) ?_
      refine gz_istore (pc := 2467) dL_law__2467 (by decide) rfl (loc2 := [some (.inr (.inr (0, 61))), some (.inr (.inr (0, 30))), some (.inr (.inr (0, 47))), some (.inr (.inr (0, 59))), some (.inl (Int32.ofNat i)), some (.inl 0), some (.inl v0)]) rfl ?_
      refine gz_aload_n (pc := 2469) dL_law__2469 rfl ?_
      refine gz_V (zy := mX12_thrown) (zc := 0) (d := d + 129) (pc := 2470) (t := 0) (o := 47) (ci := 12) (r := (RX12, TX12, 21)) [] rfl dL_law__2470 lkL_134 MvX12_thrown rfl (gzOk_of (by decide)) rfl rfl rfl (Or.inr rfl) (fun h => h) (by exact Nat.le_of_ble_eq_true rfl) ?_
      refine gz_useI (d := d + 129) (c_X12_thrown (d := d + 129) rfl) ?_
      dsimp only
      rw [hth]
      refine gz_iload (pc := 2473) dL_law__2473 rfl ?_
      refine gz_ic_eq (pc := 2475) (tgt := 2480) dL_law__2475 (by decide) (fun _ => ?_) (fun c => absurd rfl c)
      refine gz_iload (pc := 2480) dL_law__2480 rfl ?_
      refine gz_if_ne (pc := 2482) (tgt := 2497) dL_law__2482 (by decide) (fun c => absurd rfl c) (fun _ => ?_)
      refine gz_aload_n (pc := 2485) dL_law__2485 rfl ?_
      refine gz_iconst (pc := 2486) dL_law__2486 (v := 0) (by decide) ?_
      refine gz_lald (N := 1) (pc := 2487) dL_law__2487 (gzOk_of (by decide)) rfl (gz_vpd (by decide)) ?_
      rw [show J2 0 59 (0 : Int32).toNatClampNeg = gzCvI v0 from hj.trans gz_uj_s0]
      refine gz_iload (pc := 2488) dL_law__2488 rfl ?_
      refine gz_i2l (pc := 2490) dL_law__2490 ?_
      refine gz_lcmp (pc := 2491) dL_law__2491 ?_
      first | rw [show lg_cmp (gzCvI v0) v0.toInt64 = 0 from gz_cmp_self] | rw [gz_cmp_self]
      refine gz_if_eq (pc := 2492) (tgt := 2497) dL_law__2492 (by decide) (fun _ => ?_) (fun c => absurd rfl c)
      refine gz_goto (pc := 2497) (tgt := 2739) dL_law__2497 (by decide) ?_
      exact K _ _ _ _ _ hR (by omega) (by omega)
    | error E =>
      rintro _ _ ⟨kk, hk, rfl, rfl⟩
      obtain ⟨v, I2, J2, hm, ⟨k2, hk2, hth⟩, hj, hR⟩ := hM J
      have ekk : k2 = kk := gzHs_inj (by decide) hk2 hk
      subst ekk
      have hkl : k2 < 2 ^ 20 := gzHs_lt hk (by decide)
      show gzX g 512 (d + 130) mLaw 2441 [some (.inr (.inr (0, 61))), some (.inr (.inr (0, 30))), some (.inr (.inr (0, 47))), some (.inr (.inr (0, 59))), some (.inl (Int32.ofNat i)), none, none] [.inl (Int32.ofNat (k2 + 1))] (gzN, gzR0, I1, J) (z + 1) Q
      refine gz_istore (pc := 2441) dL_law__2441 (by decide) rfl (loc2 := [some (.inr (.inr (0, 61))), some (.inr (.inr (0, 30))), some (.inr (.inr (0, 47))), some (.inr (.inr (0, 59))), some (.inl (Int32.ofNat i)), some (.inl (Int32.ofNat (k2 + 1))), none]) rfl ?_
      refine gz_aload_n (pc := 2443) dL_law__2443 rfl ?_
      refine gz_aload_n (pc := 2444) dL_law__2444 rfl ?_
      refine gz_iload (pc := 2445) dL_law__2445 rfl ?_
      refine gz_iconst (pc := 2447) dL_law__2447 (v := 1) (by decide) ?_
      refine gz_iadd (pc := 2448) dL_law__2448 ?_
      refine gz_sld (j := i + 1) (pc := 2449) dL_law__2449 (Int32.ofNat_add i 1).symm (by omega) ?_
      refine gz_aload_n (pc := 2450) dL_law__2450 rfl ?_
      refine gz_iload (pc := 2451) dL_law__2451 rfl ?_
      refine gz_iconst (pc := 2453) dL_law__2453 (v := 2) (by decide) ?_
      refine gz_iadd (pc := 2454) dL_law__2454 ?_
      refine gz_sld (j := i + 2) (pc := 2455) dL_law__2455 (Int32.ofNat_add i 2).symm (by omega) ?_
      refine gz_if_eq (pc := 2456) (tgt := 2463) dL_law__2456 (by decide) (fun c => absurd c hb2) (fun _ => ?_)
      refine gz_iconst (pc := 2459) dL_law__2459 (v := 1) (by decide) ?_
      refine gz_goto (pc := 2460) (tgt := 2464) dL_law__2460 (by decide) ?_
      refine gz_V (zy := mX12_span) (zc := 0) (d := d + 129) (pc := 2464) (t := 0) (o := 47) (ci := 12) (r := (RX12, TX12, 21)) [.inl (gzXs g (i + 1)), .inl 1] rfl dL_law__2464 lkL_304 MvX12_span rfl (gzOk_of (by decide)) rfl rfl rfl (Or.inr rfl) (fun h => h) (by exact Nat.le_of_ble_eq_true rfl) ?_
      refine gz_useI (d := d + 129) (c_X12_span (d := d + 119) hm) ?_
      refine gz_istore (pc := 2467) dL_law__2467 (by decide) rfl (loc2 := [some (.inr (.inr (0, 61))), some (.inr (.inr (0, 30))), some (.inr (.inr (0, 47))), some (.inr (.inr (0, 59))), some (.inl (Int32.ofNat i)), some (.inl (Int32.ofNat (k2 + 1))), some (.inl v)]) rfl ?_
      refine gz_aload_n (pc := 2469) dL_law__2469 rfl ?_
      refine gz_V (zy := mX12_thrown) (zc := 0) (d := d + 129) (pc := 2470) (t := 0) (o := 47) (ci := 12) (r := (RX12, TX12, 21)) [] rfl dL_law__2470 lkL_134 MvX12_thrown rfl (gzOk_of (by decide)) rfl rfl rfl (Or.inr rfl) (fun h => h) (by exact Nat.le_of_ble_eq_true rfl) ?_
      refine gz_useI (d := d + 129) (c_X12_thrown (d := d + 129) rfl) ?_
      dsimp only
      rw [hth]
      refine gz_iload (pc := 2473) dL_law__2473 rfl ?_
      refine gz_ic_eq (pc := 2475) (tgt := 2480) dL_law__2475 (by decide) (fun _ => ?_) (fun c => absurd rfl c)
      refine gz_iload (pc := 2480) dL_law__2480 rfl ?_
      refine gz_if_ne (pc := 2482) (tgt := 2497) dL_law__2482 (by decide) (fun _ => ?_) (fun c => absurd c (gzHs_ne hkl))
      refine gz_goto (pc := 2497) (tgt := 2739) dL_law__2497 (by decide) ?_
      exact K _ _ _ _ _ hR (by omega) (by omega)
set_option maxRecDepth 20000 in
theorem b_50 {g : gzG} {d i z : Nat} {I : gzIT} {J : gzJT} {Q : gzO → gzS → Prop} (hi : i + 6 ≤ g.2.2.2.2.2 1 61) (hz : z + 1 ≤ 512) (h : gzR I I) (K : ∀ (l5 l6 : Option gzV) (I2 : gzIT) (J2 : gzJT) (z2 : Nat), gzR I2 I2 → z ≤ z2 → z2 ≤ z + 1 → gzX g 512 (d + 130) mLaw 2739 [some (.inr (.inr (0, 61))), some (.inr (.inr (0, 30))), some (.inr (.inr (0, 47))), some (.inr (.inr (0, 59))), some (.inl (Int32.ofNat i)), l5, l6] [] (gzN, gzR0, I2, J2) z2 Q) :
    gzX g 512 (d + 130) mLaw 2500 [some (.inr (.inr (0, 61))), some (.inr (.inr (0, 30))), some (.inr (.inr (0, 47))), some (.inr (.inr (0, 59))), some (.inl (Int32.ofNat i)), none, none] [] (gzN, gzR0, I, J) z Q := by
  by_cases hb2 : gzXs g (i + 2) = 0
  · skip
    obtain ⟨e, I1, hf, hE, hM⟩ := L_led (J := J) (gzXs g (i + 1)) 0 h
    refine gz_aload_n (pc := 2500) dL_law__2500 rfl ?_
    refine gz_aload_n (pc := 2501) dL_law__2501 rfl ?_
    refine gz_iload (pc := 2502) dL_law__2502 rfl ?_
    refine gz_iconst (pc := 2504) dL_law__2504 (v := 1) (by decide) ?_
    refine gz_iadd (pc := 2505) dL_law__2505 ?_
    refine gz_sld (j := i + 1) (pc := 2506) dL_law__2506 (Int32.ofNat_add i 1).symm (by omega) ?_
    refine gz_aload_n (pc := 2507) dL_law__2507 rfl ?_
    refine gz_iload (pc := 2508) dL_law__2508 rfl ?_
    refine gz_iconst (pc := 2510) dL_law__2510 (v := 2) (by decide) ?_
    refine gz_iadd (pc := 2511) dL_law__2511 ?_
    refine gz_sld (j := i + 2) (pc := 2512) dL_law__2512 (Int32.ofNat_add i 2).symm (by omega) ?_
    refine gz_if_eq (pc := 2513) (tgt := 2520) dL_law__2513 (by decide) (fun _ => ?_) (fun c => absurd hb2 c)
    refine gz_iconst (pc := 2520) dL_law__2520 (v := 0) (by decide) ?_
    refine gz_aload_n (pc := 2521) dL_law__2521 rfl ?_
    refine gz_SH (zy := mL_led) (hh := hL_led) (zc := 1) (d := d + 129) (pc := 2522) [.inr (.inr (0, 30)), .inl (gzXs g (i + 1)), .inl 0, .inr (.inr (0, 59))] rfl dL_law__2522 lhL_led MhL_led rfl (Or.inr rfl) (fun _ => by omega) (by exact Nat.le_of_ble_eq_true rfl) ?_
    refine gzCh.mono (h_L_led (d := d + 68) hf hE) ?_
    cases e with
    | ok v0 =>
      rintro _ _ ⟨rfl, rfl⟩
      obtain ⟨v, I2, J2, hm, hs, hj, hR⟩ := hM (gz_uj J 0 59 0 (gzCvI v0))
      obtain ⟨rfl, hth⟩ := hs
      show gzX g 512 (d + 130) mLaw 2525 [some (.inr (.inr (0, 61))), some (.inr (.inr (0, 30))), some (.inr (.inr (0, 47))), some (.inr (.inr (0, 59))), some (.inl (Int32.ofNat i)), none, none] [.inl 0] (gzN, gzR0, I1, gz_uj J 0 59 0 (gzCvI v0)) (z + 1) Q
      refine gz_istore (pc := 2525) dL_law__2525 (by decide) rfl (loc2 := [some (.inr (.inr (0, 61))), some (.inr (.inr (0, 30))), some (.inr (.inr (0, 47))), some (.inr (.inr (0, 59))), some (.inl (Int32.ofNat i)), some (.inl 0), none]) rfl ?_
      refine gz_aload_n (pc := 2527) dL_law__2527 rfl ?_
      refine gz_aload_n (pc := 2528) dL_law__2528 rfl ?_
      refine gz_iload (pc := 2529) dL_law__2529 rfl ?_
      refine gz_iconst (pc := 2531) dL_law__2531 (v := 1) (by decide) ?_
      refine gz_iadd (pc := 2532) dL_law__2532 ?_
      refine gz_sld (j := i + 1) (pc := 2533) dL_law__2533 (Int32.ofNat_add i 1).symm (by omega) ?_
      refine gz_aload_n (pc := 2534) dL_law__2534 rfl ?_
      refine gz_iload (pc := 2535) dL_law__2535 rfl ?_
      refine gz_iconst (pc := 2537) dL_law__2537 (v := 2) (by decide) ?_
      refine gz_iadd (pc := 2538) dL_law__2538 ?_
      refine gz_sld (j := i + 2) (pc := 2539) dL_law__2539 (Int32.ofNat_add i 2).symm (by omega) ?_
      refine gz_if_eq (pc := 2540) (tgt := 2547) dL_law__2540 (by decide) (fun _ => ?_) (fun c => absurd hb2 c)
      refine gz_iconst (pc := 2547) dL_law__2547 (v := 0) (by decide) ?_
      refine gz_V (zy := mX12_led) (zc := 0) (d := d + 129) (pc := 2548) (t := 0) (o := 47) (ci := 12) (r := (RX12, TX12, 21)) [.inl (gzXs g (i + 1)), .inl 0] rfl dL_law__2548 lkL_307 MvX12_led rfl (gzOk_of (by decide)) rfl rfl rfl (Or.inr rfl) (fun h => h) (by exact Nat.le_of_ble_eq_true rfl) ?_
      refine gz_useI (d := d + 129) (c_X12_led (d := d + 127) hm) ?_
      refine gz_istore (pc := 2551) dL_law__2551 (by decide) rfl (loc2 := [some (.inr (.inr (0, 61))), some (.inr (.inr (0, 30))), some (.inr (.inr (0, 47))), some (.inr (.inr (0, 59))), some (.inl (Int32.ofNat i)), some (.inl 0), some (.inl v0)]) rfl ?_
      refine gz_aload_n (pc := 2553) dL_law__2553 rfl ?_
      refine gz_V (zy := mX12_thrown) (zc := 0) (d := d + 129) (pc := 2554) (t := 0) (o := 47) (ci := 12) (r := (RX12, TX12, 21)) [] rfl dL_law__2554 lkL_134 MvX12_thrown rfl (gzOk_of (by decide)) rfl rfl rfl (Or.inr rfl) (fun h => h) (by exact Nat.le_of_ble_eq_true rfl) ?_
      refine gz_useI (d := d + 129) (c_X12_thrown (d := d + 129) rfl) ?_
      dsimp only
      rw [hth]
      refine gz_iload (pc := 2557) dL_law__2557 rfl ?_
      refine gz_ic_eq (pc := 2559) (tgt := 2564) dL_law__2559 (by decide) (fun _ => ?_) (fun c => absurd rfl c)
      refine gz_iload (pc := 2564) dL_law__2564 rfl ?_
      refine gz_if_ne (pc := 2566) (tgt := 2581) dL_law__2566 (by decide) (fun c => absurd rfl c) (fun _ => ?_)
      refine gz_aload_n (pc := 2569) dL_law__2569 rfl ?_
      refine gz_iconst (pc := 2570) dL_law__2570 (v := 0) (by decide) ?_
      refine gz_lald (N := 1) (pc := 2571) dL_law__2571 (gzOk_of (by decide)) rfl (gz_vpd (by decide)) ?_
      rw [show J2 0 59 (0 : Int32).toNatClampNeg = gzCvI v0 from hj.trans gz_uj_s0]
      refine gz_iload (pc := 2572) dL_law__2572 rfl ?_
      refine gz_i2l (pc := 2574) dL_law__2574 ?_
      refine gz_lcmp (pc := 2575) dL_law__2575 ?_
      first | rw [show lg_cmp (gzCvI v0) v0.toInt64 = 0 from gz_cmp_self] | rw [gz_cmp_self]
      refine gz_if_eq (pc := 2576) (tgt := 2581) dL_law__2576 (by decide) (fun _ => ?_) (fun c => absurd rfl c)
      refine gz_goto (pc := 2581) (tgt := 2739) dL_law__2581 (by decide) ?_
      exact K _ _ _ _ _ hR (by omega) (by omega)
    | error E =>
      rintro _ _ ⟨kk, hk, rfl, rfl⟩
      obtain ⟨v, I2, J2, hm, ⟨k2, hk2, hth⟩, hj, hR⟩ := hM J
      have ekk : k2 = kk := gzHs_inj (by decide) hk2 hk
      subst ekk
      have hkl : k2 < 2 ^ 20 := gzHs_lt hk (by decide)
      show gzX g 512 (d + 130) mLaw 2525 [some (.inr (.inr (0, 61))), some (.inr (.inr (0, 30))), some (.inr (.inr (0, 47))), some (.inr (.inr (0, 59))), some (.inl (Int32.ofNat i)), none, none] [.inl (Int32.ofNat (k2 + 1))] (gzN, gzR0, I1, J) (z + 1) Q
      refine gz_istore (pc := 2525) dL_law__2525 (by decide) rfl (loc2 := [some (.inr (.inr (0, 61))), some (.inr (.inr (0, 30))), some (.inr (.inr (0, 47))), some (.inr (.inr (0, 59))), some (.inl (Int32.ofNat i)), some (.inl (Int32.ofNat (k2 + 1))), none]) rfl ?_
      refine gz_aload_n (pc := 2527) dL_law__2527 rfl ?_
      refine gz_aload_n (pc := 2528) dL_law__2528 rfl ?_
      refine gz_iload (pc := 2529) dL_law__2529 rfl ?_
      refine gz_iconst (pc := 2531) dL_law__2531 (v := 1) (by decide) ?_
      refine gz_iadd (pc := 2532) dL_law__2532 ?_
      refine gz_sld (j := i + 1) (pc := 2533) dL_law__2533 (Int32.ofNat_add i 1).symm (by omega) ?_
      refine gz_aload_n (pc := 2534) dL_law__2534 rfl ?_
      refine gz_iload (pc := 2535) dL_law__2535 rfl ?_
      refine gz_iconst (pc := 2537) dL_law__2537 (v := 2) (by decide) ?_
      refine gz_iadd (pc := 2538) dL_law__2538 ?_
      refine gz_sld (j := i + 2) (pc := 2539) dL_law__2539 (Int32.ofNat_add i 2).symm (by omega) ?_
      refine gz_if_eq (pc := 2540) (tgt := 2547) dL_law__2540 (by decide) (fun _ => ?_) (fun c => absurd hb2 c)
      refine gz_iconst (pc := 2547) dL_law__2547 (v := 0) (by decide) ?_
      refine gz_V (zy := mX12_led) (zc := 0) (d := d + 129) (pc := 2548) (t := 0) (o := 47) (ci := 12) (r := (RX12, TX12, 21)) [.inl (gzXs g (i + 1)), .inl 0] rfl dL_law__2548 lkL_307 MvX12_led rfl (gzOk_of (by decide)) rfl rfl rfl (Or.inr rfl) (fun h => h) (by exact Nat.le_of_ble_eq_true rfl) ?_
      refine gz_useI (d := d + 129) (c_X12_led (d := d + 127) hm) ?_
      refine gz_istore (pc := 2551) dL_law__2551 (by decide) rfl (loc2 := [some (.inr (.inr (0, 61))), some (.inr (.inr (0, 30))), some (.inr (.inr (0, 47))), some (.inr (.inr (0, 59))), some (.inl (Int32.ofNat i)), some (.inl (Int32.ofNat (k2 + 1))), some (.inl v)]) rfl ?_
      refine gz_aload_n (pc := 2553) dL_law__2553 rfl ?_
      refine gz_V (zy := mX12_thrown) (zc := 0) (d := d + 129) (pc := 2554) (t := 0) (o := 47) (ci := 12) (r := (RX12, TX12, 21)) [] rfl dL_law__2554 lkL_134 MvX12_thrown rfl (gzOk_of (by decide)) rfl rfl rfl (Or.inr rfl) (fun h => h) (by exact Nat.le_of_ble_eq_true rfl) ?_
      refine gz_useI (d := d + 129) (c_X12_thrown (d := d + 129) rfl) ?_
      dsimp only
      rw [hth]
      refine gz_iload (pc := 2557) dL_law__2557 rfl ?_
      refine gz_ic_eq (pc := 2559) (tgt := 2564) dL_law__2559 (by decide) (fun _ => ?_) (fun c => absurd rfl c)
      refine gz_iload (pc := 2564) dL_law__2564 rfl ?_
      refine gz_if_ne (pc := 2566) (tgt := 2581) dL_law__2566 (by decide) (fun _ => ?_) (fun c => absurd c (gzHs_ne hkl))
      refine gz_goto (pc := 2581) (tgt := 2739) dL_law__2581 (by decide) ?_
      exact K _ _ _ _ _ hR (by omega) (by omega)
  · skip
    obtain ⟨e, I1, hf, hE, hM⟩ := L_led (J := J) (gzXs g (i + 1)) 1 h
    refine gz_aload_n (pc := 2500) dL_law__2500 rfl ?_
    refine gz_aload_n (pc := 2501) dL_law__2501 rfl ?_
    refine gz_iload (pc := 2502) dL_law__2502 rfl ?_
    refine gz_iconst (pc := 2504) dL_law__2504 (v := 1) (by decide) ?_
    refine gz_iadd (pc := 2505) dL_law__2505 ?_
    refine gz_sld (j := i + 1) (pc := 2506) dL_law__2506 (Int32.ofNat_add i 1).symm (by omega) ?_
    refine gz_aload_n (pc := 2507) dL_law__2507 rfl ?_
    refine gz_iload (pc := 2508) dL_law__2508 rfl ?_
    refine gz_iconst (pc := 2510) dL_law__2510 (v := 2) (by decide) ?_
    refine gz_iadd (pc := 2511) dL_law__2511 ?_
    refine gz_sld (j := i + 2) (pc := 2512) dL_law__2512 (Int32.ofNat_add i 2).symm (by omega) ?_
    refine gz_if_eq (pc := 2513) (tgt := 2520) dL_law__2513 (by decide) (fun c => absurd c hb2) (fun _ => ?_)
    refine gz_iconst (pc := 2516) dL_law__2516 (v := 1) (by decide) ?_
    refine gz_goto (pc := 2517) (tgt := 2521) dL_law__2517 (by decide) ?_
    refine gz_aload_n (pc := 2521) dL_law__2521 rfl ?_
    refine gz_SH (zy := mL_led) (hh := hL_led) (zc := 1) (d := d + 129) (pc := 2522) [.inr (.inr (0, 30)), .inl (gzXs g (i + 1)), .inl 1, .inr (.inr (0, 59))] rfl dL_law__2522 lhL_led MhL_led rfl (Or.inr rfl) (fun _ => by omega) (by exact Nat.le_of_ble_eq_true rfl) ?_
    refine gzCh.mono (h_L_led (d := d + 68) hf hE) ?_
    cases e with
    | ok v0 =>
      rintro _ _ ⟨rfl, rfl⟩
      obtain ⟨v, I2, J2, hm, hs, hj, hR⟩ := hM (gz_uj J 0 59 0 (gzCvI v0))
      obtain ⟨rfl, hth⟩ := hs
      show gzX g 512 (d + 130) mLaw 2525 [some (.inr (.inr (0, 61))), some (.inr (.inr (0, 30))), some (.inr (.inr (0, 47))), some (.inr (.inr (0, 59))), some (.inl (Int32.ofNat i)), none, none] [.inl 0] (gzN, gzR0, I1, gz_uj J 0 59 0 (gzCvI v0)) (z + 1) Q
      refine gz_istore (pc := 2525) dL_law__2525 (by decide) rfl (loc2 := [some (.inr (.inr (0, 61))), some (.inr (.inr (0, 30))), some (.inr (.inr (0, 47))), some (.inr (.inr (0, 59))), some (.inl (Int32.ofNat i)), some (.inl 0), none]) rfl ?_
      refine gz_aload_n (pc := 2527) dL_law__2527 rfl ?_
      refine gz_aload_n (pc := 2528) dL_law__2528 rfl ?_
      refine gz_iload (pc := 2529) dL_law__2529 rfl ?_
      refine gz_iconst (pc := 2531) dL_law__2531 (v := 1) (by decide) ?_
      refine gz_iadd (pc := 2532) dL_law__2532 ?_
      refine gz_sld (j := i + 1) (pc := 2533) dL_law__2533 (Int32.ofNat_add i 1).symm (by omega) ?_
      refine gz_aload_n (pc := 2534) dL_law__2534 rfl ?_
      refine gz_iload (pc := 2535) dL_law__2535 rfl ?_
      refine gz_iconst (pc := 2537) dL_law__2537 (v := 2) (by decide) ?_
      refine gz_iadd (pc := 2538) dL_law__2538 ?_
      refine gz_sld (j := i + 2) (pc := 2539) dL_law__2539 (Int32.ofNat_add i 2).symm (by omega) ?_
      refine gz_if_eq (pc := 2540) (tgt := 2547) dL_law__2540 (by decide) (fun c => absurd c hb2) (fun _ => ?_)
      refine gz_iconst (pc := 2543) dL_law__2543 (v := 1) (by decide) ?_
      refine gz_goto (pc := 2544) (tgt := 2548) dL_law__2544 (by decide) ?_
      refine gz_V (zy := mX12_led) (zc := 0) (d := d + 129) (pc := 2548) (t := 0) (o := 47) (ci := 12) (r := (RX12, TX12, 21)) [.inl (gzXs g (i + 1)), .inl 1] rfl dL_law__2548 lkL_307 MvX12_led rfl (gzOk_of (by decide)) rfl rfl rfl (Or.inr rfl) (fun h => h) (by exact Nat.le_of_ble_eq_true rfl) ?_
      refine gz_useI (d := d + 129) (c_X12_led (d := d + 127) hm) ?_
      refine gz_istore (pc := 2551) dL_law__2551 (by decide) rfl (loc2 := [some (.inr (.inr (0, 61))), some (.inr (.inr (0, 30))), some (.inr (.inr (0, 47))), some (.inr (.inr (0, 59))), some (.inl (Int32.ofNat i)), some (.inl 0), some (.inl v0)]) rfl ?_
      refine gz_aload_n (pc := 2553) dL_law__2553 rfl ?_
      refine gz_V (zy := mX12_thrown) (zc := 0) (d := d + 129) (pc := 2554) (t := 0) (o := 47) (ci := 12) (r := (RX12, TX12, 21)) [] rfl dL_law__2554 lkL_134 MvX12_thrown rfl (gzOk_of (by decide)) rfl rfl rfl (Or.inr rfl) (fun h => h) (by exact Nat.le_of_ble_eq_true rfl) ?_
      refine gz_useI (d := d + 129) (c_X12_thrown (d := d + 129) rfl) ?_
      dsimp only
      rw [hth]
      refine gz_iload (pc := 2557) dL_law__2557 rfl ?_
      refine gz_ic_eq (pc := 2559) (tgt := 2564) dL_law__2559 (by decide) (fun _ => ?_) (fun c => absurd rfl c)
      refine gz_iload (pc := 2564) dL_law__2564 rfl ?_
      refine gz_if_ne (pc := 2566) (tgt := 2581) dL_law__2566 (by decide) (fun c => absurd rfl c) (fun _ => ?_)
      refine gz_aload_n (pc := 2569) dL_law__2569 rfl ?_
      refine gz_iconst (pc := 2570) dL_law__2570 (v := 0) (by decide) ?_
      refine gz_lald (N := 1) (pc := 2571) dL_law__2571 (gzOk_of (by decide)) rfl (gz_vpd (by decide)) ?_
      rw [show J2 0 59 (0 : Int32).toNatClampNeg = gzCvI v0 from hj.trans gz_uj_s0]
      refine gz_iload (pc := 2572) dL_law__2572 rfl ?_
      refine gz_i2l (pc := 2574) dL_law__2574 ?_
      refine gz_lcmp (pc := 2575) dL_law__2575 ?_
      first | rw [show lg_cmp (gzCvI v0) v0.toInt64 = 0 from gz_cmp_self] | rw [gz_cmp_self]
      refine gz_if_eq (pc := 2576) (tgt := 2581) dL_law__2576 (by decide) (fun _ => ?_) (fun c => absurd rfl c)
      refine gz_goto (pc := 2581) (tgt := 2739) dL_law__2581 (by decide) ?_
      exact K _ _ _ _ _ hR (by omega) (by omega)
    | error E =>
      rintro _ _ ⟨kk, hk, rfl, rfl⟩
      obtain ⟨v, I2, J2, hm, ⟨k2, hk2, hth⟩, hj, hR⟩ := hM J
      have ekk : k2 = kk := gzHs_inj (by decide) hk2 hk
      subst ekk
      have hkl : k2 < 2 ^ 20 := gzHs_lt hk (by decide)
      show gzX g 512 (d + 130) mLaw 2525 [some (.inr (.inr (0, 61))), some (.inr (.inr (0, 30))), some (.inr (.inr (0, 47))), some (.inr (.inr (0, 59))), some (.inl (Int32.ofNat i)), none, none] [.inl (Int32.ofNat (k2 + 1))] (gzN, gzR0, I1, J) (z + 1) Q
      refine gz_istore (pc := 2525) dL_law__2525 (by decide) rfl (loc2 := [some (.inr (.inr (0, 61))), some (.inr (.inr (0, 30))), some (.inr (.inr (0, 47))), some (.inr (.inr (0, 59))), some (.inl (Int32.ofNat i)), some (.inl (Int32.ofNat (k2 + 1))), none]) rfl ?_
      refine gz_aload_n (pc := 2527) dL_law__2527 rfl ?_
      refine gz_aload_n (pc := 2528) dL_law__2528 rfl ?_
      refine gz_iload (pc := 2529) dL_law__2529 rfl ?_
      refine gz_iconst (pc := 2531) dL_law__2531 (v := 1) (by decide) ?_
      refine gz_iadd (pc := 2532) dL_law__2532 ?_
      refine gz_sld (j := i + 1) (pc := 2533) dL_law__2533 (Int32.ofNat_add i 1).symm (by omega) ?_
      refine gz_aload_n (pc := 2534) dL_law__2534 rfl ?_
      refine gz_iload (pc := 2535) dL_law__2535 rfl ?_
      refine gz_iconst (pc := 2537) dL_law__2537 (v := 2) (by decide) ?_
      refine gz_iadd (pc := 2538) dL_law__2538 ?_
      refine gz_sld (j := i + 2) (pc := 2539) dL_law__2539 (Int32.ofNat_add i 2).symm (by omega) ?_
      refine gz_if_eq (pc := 2540) (tgt := 2547) dL_law__2540 (by decide) (fun c => absurd c hb2) (fun _ => ?_)
      refine gz_iconst (pc := 2543) dL_law__2543 (v := 1) (by decide) ?_
      refine gz_goto (pc := 2544) (tgt := 2548) dL_law__2544 (by decide) ?_
      refine gz_V (zy := mX12_led) (zc := 0) (d := d + 129) (pc := 2548) (t := 0) (o := 47) (ci := 12) (r := (RX12, TX12, 21)) [.inl (gzXs g (i + 1)), .inl 1] rfl dL_law__2548 lkL_307 MvX12_led rfl (gzOk_of (by decide)) rfl rfl rfl (Or.inr rfl) (fun h => h) (by exact Nat.le_of_ble_eq_true rfl) ?_
      refine gz_useI (d := d + 129) (c_X12_led (d := d + 127) hm) ?_
      refine gz_istore (pc := 2551) dL_law__2551 (by decide) rfl (loc2 := [some (.inr (.inr (0, 61))), some (.inr (.inr (0, 30))), some (.inr (.inr (0, 47))), some (.inr (.inr (0, 59))), some (.inl (Int32.ofNat i)), some (.inl (Int32.ofNat (k2 + 1))), some (.inl v)]) rfl ?_
      refine gz_aload_n (pc := 2553) dL_law__2553 rfl ?_
      refine gz_V (zy := mX12_thrown) (zc := 0) (d := d + 129) (pc := 2554) (t := 0) (o := 47) (ci := 12) (r := (RX12, TX12, 21)) [] rfl dL_law__2554 lkL_134 MvX12_thrown rfl (gzOk_of (by decide)) rfl rfl rfl (Or.inr rfl) (fun h => h) (by exact Nat.le_of_ble_eq_true rfl) ?_
      refine gz_useI (d := d + 129) (c_X12_thrown (d := d + 129) rfl) ?_
      dsimp only
      rw [hth]
      refine gz_iload (pc := 2557) dL_law__2557 rfl ?_
      refine gz_ic_eq (pc := 2559) (tgt := 2564) dL_law__2559 (by decide) (fun _ => ?_) (fun c => absurd rfl c)
      refine gz_iload (pc := 2564) dL_law__2564 rfl ?_
      refine gz_if_ne (pc := 2566) (tgt := 2581) dL_law__2566 (by decide) (fun _ => ?_) (fun c => absurd c (gzHs_ne hkl))
      refine gz_goto (pc := 2581) (tgt := 2739) dL_law__2581 (by decide) ?_
      exact K _ _ _ _ _ hR (by omega) (by omega)
set_option maxRecDepth 20000 in
theorem b_51 {g : gzG} {d i z : Nat} {I : gzIT} {J : gzJT} {Q : gzO → gzS → Prop} (hi : i + 6 ≤ g.2.2.2.2.2 1 61) (hz : z + 1 ≤ 512) (h : gzR I I) (K : ∀ (l5 l6 : Option gzV) (I2 : gzIT) (J2 : gzJT) (z2 : Nat), gzR I2 I2 → z ≤ z2 → z2 ≤ z + 1 → gzX g 512 (d + 130) mLaw 2739 [some (.inr (.inr (0, 61))), some (.inr (.inr (0, 30))), some (.inr (.inr (0, 47))), some (.inr (.inr (0, 59))), some (.inl (Int32.ofNat i)), l5, l6] [] (gzN, gzR0, I2, J2) z2 Q) :
    gzX g 512 (d + 130) mLaw 2584 [some (.inr (.inr (0, 61))), some (.inr (.inr (0, 30))), some (.inr (.inr (0, 47))), some (.inr (.inr (0, 59))), some (.inl (Int32.ofNat i)), none, none] [] (gzN, gzR0, I, J) z Q := by
  obtain ⟨e, I1, hf, hE, hM⟩ := L_log (J := J) (gzXs g (i + 1)) (gzXs g (i + 2)) h
  refine gz_aload_n (pc := 2584) dL_law__2584 rfl ?_
  refine gz_aload_n (pc := 2585) dL_law__2585 rfl ?_
  refine gz_iload (pc := 2586) dL_law__2586 rfl ?_
  refine gz_iconst (pc := 2588) dL_law__2588 (v := 1) (by decide) ?_
  refine gz_iadd (pc := 2589) dL_law__2589 ?_
  refine gz_sld (j := i + 1) (pc := 2590) dL_law__2590 (Int32.ofNat_add i 1).symm (by omega) ?_
  refine gz_aload_n (pc := 2591) dL_law__2591 rfl ?_
  refine gz_iload (pc := 2592) dL_law__2592 rfl ?_
  refine gz_iconst (pc := 2594) dL_law__2594 (v := 2) (by decide) ?_
  refine gz_iadd (pc := 2595) dL_law__2595 ?_
  refine gz_sld (j := i + 2) (pc := 2596) dL_law__2596 (Int32.ofNat_add i 2).symm (by omega) ?_
  refine gz_aload_n (pc := 2597) dL_law__2597 rfl ?_
  refine gz_SH (zy := mL_log) (hh := hL_log) (zc := 1) (d := d + 129) (pc := 2598) [.inr (.inr (0, 30)), .inl (gzXs g (i + 1)), .inl (gzXs g (i + 2)), .inr (.inr (0, 59))] rfl dL_law__2598 lhL_log MhL_log rfl (Or.inr rfl) (fun _ => by omega) (by exact Nat.le_of_ble_eq_true rfl) ?_
  refine gzCh.mono (h_L_log (d := d + 68) hf hE) ?_
  cases e with
  | ok v0 =>
    rintro _ _ ⟨rfl, rfl⟩
    obtain ⟨v, I2, J2, hm, hs, hj, hR⟩ := hM (gz_uj J 0 59 0 (gzCvI v0))
    obtain ⟨rfl, hth⟩ := hs
    show gzX g 512 (d + 130) mLaw 2601 [some (.inr (.inr (0, 61))), some (.inr (.inr (0, 30))), some (.inr (.inr (0, 47))), some (.inr (.inr (0, 59))), some (.inl (Int32.ofNat i)), none, none] [.inl 0] (gzN, gzR0, I1, gz_uj J 0 59 0 (gzCvI v0)) (z + 1) Q
    refine gz_istore (pc := 2601) dL_law__2601 (by decide) rfl (loc2 := [some (.inr (.inr (0, 61))), some (.inr (.inr (0, 30))), some (.inr (.inr (0, 47))), some (.inr (.inr (0, 59))), some (.inl (Int32.ofNat i)), some (.inl 0), none]) rfl ?_
    refine gz_aload_n (pc := 2603) dL_law__2603 rfl ?_
    refine gz_aload_n (pc := 2604) dL_law__2604 rfl ?_
    refine gz_iload (pc := 2605) dL_law__2605 rfl ?_
    refine gz_iconst (pc := 2607) dL_law__2607 (v := 1) (by decide) ?_
    refine gz_iadd (pc := 2608) dL_law__2608 ?_
    refine gz_sld (j := i + 1) (pc := 2609) dL_law__2609 (Int32.ofNat_add i 1).symm (by omega) ?_
    refine gz_aload_n (pc := 2610) dL_law__2610 rfl ?_
    refine gz_iload (pc := 2611) dL_law__2611 rfl ?_
    refine gz_iconst (pc := 2613) dL_law__2613 (v := 2) (by decide) ?_
    refine gz_iadd (pc := 2614) dL_law__2614 ?_
    refine gz_sld (j := i + 2) (pc := 2615) dL_law__2615 (Int32.ofNat_add i 2).symm (by omega) ?_
    refine gz_V (zy := mX12_log) (zc := 0) (d := d + 129) (pc := 2616) (t := 0) (o := 47) (ci := 12) (r := (RX12, TX12, 21)) [.inl (gzXs g (i + 1)), .inl (gzXs g (i + 2))] rfl dL_law__2616 lkL_310 MvX12_log rfl (gzOk_of (by decide)) rfl rfl rfl (Or.inr rfl) (fun h => h) (by exact Nat.le_of_ble_eq_true rfl) ?_
    refine gz_useI (d := d + 129) (c_X12_log (d := d + 128) hm) ?_
    refine gz_istore (pc := 2619) dL_law__2619 (by decide) rfl (loc2 := [some (.inr (.inr (0, 61))), some (.inr (.inr (0, 30))), some (.inr (.inr (0, 47))), some (.inr (.inr (0, 59))), some (.inl (Int32.ofNat i)), some (.inl 0), some (.inl v0)]) rfl ?_
    refine gz_aload_n (pc := 2621) dL_law__2621 rfl ?_
    refine gz_V (zy := mX12_thrown) (zc := 0) (d := d + 129) (pc := 2622) (t := 0) (o := 47) (ci := 12) (r := (RX12, TX12, 21)) [] rfl dL_law__2622 lkL_134 MvX12_thrown rfl (gzOk_of (by decide)) rfl rfl rfl (Or.inr rfl) (fun h => h) (by exact Nat.le_of_ble_eq_true rfl) ?_
    refine gz_useI (d := d + 129) (c_X12_thrown (d := d + 129) rfl) ?_
    dsimp only
    rw [hth]
    refine gz_iload (pc := 2625) dL_law__2625 rfl ?_
    refine gz_ic_eq (pc := 2627) (tgt := 2632) dL_law__2627 (by decide) (fun _ => ?_) (fun c => absurd rfl c)
    refine gz_iload (pc := 2632) dL_law__2632 rfl ?_
    refine gz_if_ne (pc := 2634) (tgt := 2649) dL_law__2634 (by decide) (fun c => absurd rfl c) (fun _ => ?_)
    refine gz_aload_n (pc := 2637) dL_law__2637 rfl ?_
    refine gz_iconst (pc := 2638) dL_law__2638 (v := 0) (by decide) ?_
    refine gz_lald (N := 1) (pc := 2639) dL_law__2639 (gzOk_of (by decide)) rfl (gz_vpd (by decide)) ?_
    rw [show J2 0 59 (0 : Int32).toNatClampNeg = gzCvI v0 from hj.trans gz_uj_s0]
    refine gz_iload (pc := 2640) dL_law__2640 rfl ?_
    refine gz_i2l (pc := 2642) dL_law__2642 ?_
    refine gz_lcmp (pc := 2643) dL_law__2643 ?_
    first | rw [show lg_cmp (gzCvI v0) v0.toInt64 = 0 from gz_cmp_self] | rw [gz_cmp_self]
    refine gz_if_eq (pc := 2644) (tgt := 2649) dL_law__2644 (by decide) (fun _ => ?_) (fun c => absurd rfl c)
    refine gz_goto (pc := 2649) (tgt := 2739) dL_law__2649 (by decide) ?_
    exact K _ _ _ _ _ hR (by omega) (by omega)
  | error E =>
    rintro _ _ ⟨kk, hk, rfl, rfl⟩
    obtain ⟨v, I2, J2, hm, ⟨k2, hk2, hth⟩, hj, hR⟩ := hM J
    have ekk : k2 = kk := gzHs_inj (by decide) hk2 hk
    subst ekk
    have hkl : k2 < 2 ^ 20 := gzHs_lt hk (by decide)
    show gzX g 512 (d + 130) mLaw 2601 [some (.inr (.inr (0, 61))), some (.inr (.inr (0, 30))), some (.inr (.inr (0, 47))), some (.inr (.inr (0, 59))), some (.inl (Int32.ofNat i)), none, none] [.inl (Int32.ofNat (k2 + 1))] (gzN, gzR0, I1, J) (z + 1) Q
    refine gz_istore (pc := 2601) dL_law__2601 (by decide) rfl (loc2 := [some (.inr (.inr (0, 61))), some (.inr (.inr (0, 30))), some (.inr (.inr (0, 47))), some (.inr (.inr (0, 59))), some (.inl (Int32.ofNat i)), some (.inl (Int32.ofNat (k2 + 1))), none]) rfl ?_
    refine gz_aload_n (pc := 2603) dL_law__2603 rfl ?_
    refine gz_aload_n (pc := 2604) dL_law__2604 rfl ?_
    refine gz_iload (pc := 2605) dL_law__2605 rfl ?_
    refine gz_iconst (pc := 2607) dL_law__2607 (v := 1) (by decide) ?_
    refine gz_iadd (pc := 2608) dL_law__2608 ?_
    refine gz_sld (j := i + 1) (pc := 2609) dL_law__2609 (Int32.ofNat_add i 1).symm (by omega) ?_
    refine gz_aload_n (pc := 2610) dL_law__2610 rfl ?_
    refine gz_iload (pc := 2611) dL_law__2611 rfl ?_
    refine gz_iconst (pc := 2613) dL_law__2613 (v := 2) (by decide) ?_
    refine gz_iadd (pc := 2614) dL_law__2614 ?_
    refine gz_sld (j := i + 2) (pc := 2615) dL_law__2615 (Int32.ofNat_add i 2).symm (by omega) ?_
    refine gz_V (zy := mX12_log) (zc := 0) (d := d + 129) (pc := 2616) (t := 0) (o := 47) (ci := 12) (r := (RX12, TX12, 21)) [.inl (gzXs g (i + 1)), .inl (gzXs g (i + 2))] rfl dL_law__2616 lkL_310 MvX12_log rfl (gzOk_of (by decide)) rfl rfl rfl (Or.inr rfl) (fun h => h) (by exact Nat.le_of_ble_eq_true rfl) ?_
    refine gz_useI (d := d + 129) (c_X12_log (d := d + 128) hm) ?_
    refine gz_istore (pc := 2619) dL_law__2619 (by decide) rfl (loc2 := [some (.inr (.inr (0, 61))), some (.inr (.inr (0, 30))), some (.inr (.inr (0, 47))), some (.inr (.inr (0, 59))), some (.inl (Int32.ofNat i)), some (.inl (Int32.ofNat (k2 + 1))), some (.inl v)]) rfl ?_
    refine gz_aload_n (pc := 2621) dL_law__2621 rfl ?_
    refine gz_V (zy := mX12_thrown) (zc := 0) (d := d + 129) (pc := 2622) (t := 0) (o := 47) (ci := 12) (r := (RX12, TX12, 21)) [] rfl dL_law__2622 lkL_134 MvX12_thrown rfl (gzOk_of (by decide)) rfl rfl rfl (Or.inr rfl) (fun h => h) (by exact Nat.le_of_ble_eq_true rfl) ?_
    refine gz_useI (d := d + 129) (c_X12_thrown (d := d + 129) rfl) ?_
    dsimp only
    rw [hth]
    refine gz_iload (pc := 2625) dL_law__2625 rfl ?_
    refine gz_ic_eq (pc := 2627) (tgt := 2632) dL_law__2627 (by decide) (fun _ => ?_) (fun c => absurd rfl c)
    refine gz_iload (pc := 2632) dL_law__2632 rfl ?_
    refine gz_if_ne (pc := 2634) (tgt := 2649) dL_law__2634 (by decide) (fun _ => ?_) (fun c => absurd c (gzHs_ne hkl))
    refine gz_goto (pc := 2649) (tgt := 2739) dL_law__2649 (by decide) ?_
    exact K _ _ _ _ _ hR (by omega) (by omega)
set_option maxRecDepth 20000 in
theorem b_52 {g : gzG} {d i z : Nat} {I : gzIT} {J : gzJT} {Q : gzO → gzS → Prop} (hi : i + 6 ≤ g.2.2.2.2.2 1 61) (hz : z + 1 ≤ 512) (h : gzR I I) (K : ∀ (l5 l6 : Option gzV) (I2 : gzIT) (J2 : gzJT) (z2 : Nat), gzR I2 I2 → z ≤ z2 → z2 ≤ z + 1 → gzX g 512 (d + 130) mLaw 2739 [some (.inr (.inr (0, 61))), some (.inr (.inr (0, 30))), some (.inr (.inr (0, 47))), some (.inr (.inr (0, 59))), some (.inl (Int32.ofNat i)), l5, l6] [] (gzN, gzR0, I2, J2) z2 Q) :
    gzX g 512 (d + 130) mLaw 2652 [some (.inr (.inr (0, 61))), some (.inr (.inr (0, 30))), some (.inr (.inr (0, 47))), some (.inr (.inr (0, 59))), some (.inl (Int32.ofNat i)), none, none] [] (gzN, gzR0, I, J) z Q := by
  obtain ⟨v, I1, I2, J2, hf, hm, hR⟩ := L_seed (J := J) (gzXs g (i + 1)) h
  refine gz_aload_n (pc := 2652) dL_law__2652 rfl ?_
  refine gz_aload_n (pc := 2653) dL_law__2653 rfl ?_
  refine gz_iload (pc := 2654) dL_law__2654 rfl ?_
  refine gz_iconst (pc := 2656) dL_law__2656 (v := 1) (by decide) ?_
  refine gz_iadd (pc := 2657) dL_law__2657 ?_
  refine gz_sld (j := i + 1) (pc := 2658) dL_law__2658 (Int32.ofNat_add i 1).symm (by omega) ?_
  refine gz_V (zy := mX11_seed) (zc := 0) (d := d + 129) (pc := 2659) (t := 0) (o := 30) (ci := 11) (r := (RX11, TX11, 13)) [.inl (gzXs g (i + 1))] rfl dL_law__2659 lkL_311 MvX11_seed rfl (gzOk_of (by decide)) rfl rfl rfl (Or.inr rfl) (fun h => h) (by exact Nat.le_of_ble_eq_true rfl) ?_
  refine gz_useI (d := d + 129) (c_X11_seed (d := d + 129) hf) ?_
  refine gz_aload_n (pc := 2662) dL_law__2662 rfl ?_
  refine gz_aload_n (pc := 2663) dL_law__2663 rfl ?_
  refine gz_iload (pc := 2664) dL_law__2664 rfl ?_
  refine gz_iconst (pc := 2666) dL_law__2666 (v := 1) (by decide) ?_
  refine gz_iadd (pc := 2667) dL_law__2667 ?_
  refine gz_sld (j := i + 1) (pc := 2668) dL_law__2668 (Int32.ofNat_add i 1).symm (by omega) ?_
  refine gz_V (zy := mX12_seed) (zc := 0) (d := d + 129) (pc := 2669) (t := 0) (o := 47) (ci := 12) (r := (RX12, TX12, 21)) [.inl (gzXs g (i + 1))] rfl dL_law__2669 lkL_314 MvX12_seed rfl (gzOk_of (by decide)) rfl rfl rfl (Or.inr rfl) (fun h => h) (by exact Nat.le_of_ble_eq_true rfl) ?_
  refine gz_useI (d := d + 129) (c_X12_seed (d := d + 129) hm) ?_
  refine gz_ic_eq (pc := 2672) (tgt := 2739) dL_law__2672 (by decide) (fun _ => ?_) (fun c => absurd rfl c)
  exact K _ _ _ _ _ hR (Nat.le_refl _) (by omega)
set_option maxRecDepth 20000 in
theorem b_53 {g : gzG} {d i z : Nat} {I : gzIT} {J : gzJT} {Q : gzO → gzS → Prop} (hi : i + 6 ≤ g.2.2.2.2.2 1 61) (hz : z + 1 ≤ 512) (h : gzR I I) (K : ∀ (l5 l6 : Option gzV) (I2 : gzIT) (J2 : gzJT) (z2 : Nat), gzR I2 I2 → z ≤ z2 → z2 ≤ z + 1 → gzX g 512 (d + 130) mLaw 2739 [some (.inr (.inr (0, 61))), some (.inr (.inr (0, 30))), some (.inr (.inr (0, 47))), some (.inr (.inr (0, 59))), some (.inl (Int32.ofNat i)), l5, l6] [] (gzN, gzR0, I2, J2) z2 Q) :
    gzX g 512 (d + 130) mLaw 2677 [some (.inr (.inr (0, 61))), some (.inr (.inr (0, 30))), some (.inr (.inr (0, 47))), some (.inr (.inr (0, 59))), some (.inl (Int32.ofNat i)), none, none] [] (gzN, gzR0, I, J) z Q := by
  obtain ⟨v, I1, I2, J2, hf, hm, hR⟩ := L_undo (J := J) h
  refine gz_aload_n (pc := 2677) dL_law__2677 rfl ?_
  refine gz_V (zy := mX11_undo) (zc := 0) (d := d + 129) (pc := 2678) (t := 0) (o := 30) (ci := 11) (r := (RX11, TX11, 13)) [] rfl dL_law__2678 lkL_315 MvX11_undo rfl (gzOk_of (by decide)) rfl rfl rfl (Or.inr rfl) (fun h => h) (by exact Nat.le_of_ble_eq_true rfl) ?_
  refine gz_useI (d := d + 129) (c_X11_undo (d := d + 125) hf) ?_
  refine gz_aload_n (pc := 2681) dL_law__2681 rfl ?_
  refine gz_V (zy := mX12_undo) (zc := 0) (d := d + 129) (pc := 2682) (t := 0) (o := 47) (ci := 12) (r := (RX12, TX12, 21)) [] rfl dL_law__2682 lkL_319 MvX12_undo rfl (gzOk_of (by decide)) rfl rfl rfl (Or.inr rfl) (fun h => h) (by exact Nat.le_of_ble_eq_true rfl) ?_
  refine gz_useI (d := d + 129) (c_X12_undo (d := d + 129) hm) ?_
  refine gz_ic_eq (pc := 2685) (tgt := 2739) dL_law__2685 (by decide) (fun _ => ?_) (fun c => absurd rfl c)
  exact K _ _ _ _ _ hR (Nat.le_refl _) (by omega)
set_option maxRecDepth 20000 in
theorem b_54 {g : gzG} {d i z : Nat} {I : gzIT} {J : gzJT} {Q : gzO → gzS → Prop} (hi : i + 6 ≤ g.2.2.2.2.2 1 61) (hz : z + 1 ≤ 512) (h : gzR I I) (K : ∀ (l5 l6 : Option gzV) (I2 : gzIT) (J2 : gzJT) (z2 : Nat), gzR I2 I2 → z ≤ z2 → z2 ≤ z + 1 → gzX g 512 (d + 130) mLaw 2739 [some (.inr (.inr (0, 61))), some (.inr (.inr (0, 30))), some (.inr (.inr (0, 47))), some (.inr (.inr (0, 59))), some (.inl (Int32.ofNat i)), l5, l6] [] (gzN, gzR0, I2, J2) z2 Q) :
    gzX g 512 (d + 130) mLaw 2690 [some (.inr (.inr (0, 61))), some (.inr (.inr (0, 30))), some (.inr (.inr (0, 47))), some (.inr (.inr (0, 59))), some (.inl (Int32.ofNat i)), none, none] [] (gzN, gzR0, I, J) z Q := by
  obtain ⟨I1, I2, J2, hf, hm, hR⟩ := L_image (J := J) h
  refine gz_aload_n (pc := 2690) dL_law__2690 rfl ?_
  refine gz_V (zy := mX11_image) (zc := 0) (d := d + 129) (pc := 2691) (t := 0) (o := 30) (ci := 11) (r := (RX11, TX11, 13)) [] rfl dL_law__2691 lkL_320 MvX11_image rfl (gzOk_of (by decide)) rfl rfl rfl (Or.inr rfl) (fun h => h) (by exact Nat.le_of_ble_eq_true rfl) ?_
  refine gz_useV (d := d + 129) (c_X11_image (d := d + 126) hf) ?_
  refine gz_aload_n (pc := 2694) dL_law__2694 rfl ?_
  refine gz_V (zy := mX12_image) (zc := 0) (d := d + 129) (pc := 2695) (t := 0) (o := 47) (ci := 12) (r := (RX12, TX12, 21)) [] rfl dL_law__2695 lkL_323 MvX12_image rfl (gzOk_of (by decide)) rfl rfl rfl (Or.inr rfl) (fun h => h) (by exact Nat.le_of_ble_eq_true rfl) ?_
  refine gz_useV (d := d + 129) (c_X12_image (d := d + 129) hm) ?_
  refine gz_goto (pc := 2698) (tgt := 2739) dL_law__2698 (by decide) ?_
  exact K _ _ _ _ _ hR (Nat.le_refl _) (by omega)
set_option maxRecDepth 20000 in
theorem b_55 {g : gzG} {d i z : Nat} {I : gzIT} {J : gzJT} {Q : gzO → gzS → Prop} (hi : i + 6 ≤ g.2.2.2.2.2 1 61) (hz : z + 1 ≤ 512) (h : gzR I I) (K : ∀ (l5 l6 : Option gzV) (I2 : gzIT) (J2 : gzJT) (z2 : Nat), gzR I2 I2 → z ≤ z2 → z2 ≤ z + 1 → gzX g 512 (d + 130) mLaw 2739 [some (.inr (.inr (0, 61))), some (.inr (.inr (0, 30))), some (.inr (.inr (0, 47))), some (.inr (.inr (0, 59))), some (.inl (Int32.ofNat i)), l5, l6] [] (gzN, gzR0, I2, J2) z2 Q) :
    gzX g 512 (d + 130) mLaw 2701 [some (.inr (.inr (0, 61))), some (.inr (.inr (0, 30))), some (.inr (.inr (0, 47))), some (.inr (.inr (0, 59))), some (.inl (Int32.ofNat i)), none, none] [] (gzN, gzR0, I, J) z Q := by
  obtain ⟨v, I1, I2, J2, hf, hm, hR⟩ := L_back (J := J) h
  refine gz_aload_n (pc := 2701) dL_law__2701 rfl ?_
  refine gz_V (zy := mX11_back) (zc := 0) (d := d + 129) (pc := 2702) (t := 0) (o := 30) (ci := 11) (r := (RX11, TX11, 13)) [] rfl dL_law__2702 lkL_324 MvX11_back rfl (gzOk_of (by decide)) rfl rfl rfl (Or.inr rfl) (fun h => h) (by exact Nat.le_of_ble_eq_true rfl) ?_
  refine gz_useI (d := d + 129) (c_X11_back (d := d + 126) hf) ?_
  refine gz_aload_n (pc := 2705) dL_law__2705 rfl ?_
  refine gz_V (zy := mX12_back) (zc := 0) (d := d + 129) (pc := 2706) (t := 0) (o := 47) (ci := 12) (r := (RX12, TX12, 21)) [] rfl dL_law__2706 lkL_327 MvX12_back rfl (gzOk_of (by decide)) rfl rfl rfl (Or.inr rfl) (fun h => h) (by exact Nat.le_of_ble_eq_true rfl) ?_
  refine gz_useI (d := d + 129) (c_X12_back (d := d + 129) hm) ?_
  refine gz_ic_eq (pc := 2709) (tgt := 2739) dL_law__2709 (by decide) (fun _ => ?_) (fun c => absurd rfl c)
  exact K _ _ _ _ _ hR (Nat.le_refl _) (by omega)
set_option maxRecDepth 20000 in
theorem b_56 {g : gzG} {d i z : Nat} {I : gzIT} {J : gzJT} {Q : gzO → gzS → Prop} (hi : i + 6 ≤ g.2.2.2.2.2 1 61) (hz : z + 1 ≤ 512) (h : gzR I I) (K : ∀ (l5 l6 : Option gzV) (I2 : gzIT) (J2 : gzJT) (z2 : Nat), gzR I2 I2 → z ≤ z2 → z2 ≤ z + 1 → gzX g 512 (d + 130) mLaw 2739 [some (.inr (.inr (0, 61))), some (.inr (.inr (0, 30))), some (.inr (.inr (0, 47))), some (.inr (.inr (0, 59))), some (.inl (Int32.ofNat i)), l5, l6] [] (gzN, gzR0, I2, J2) z2 Q) :
    gzX g 512 (d + 130) mLaw 2714 [some (.inr (.inr (0, 61))), some (.inr (.inr (0, 30))), some (.inr (.inr (0, 47))), some (.inr (.inr (0, 59))), some (.inl (Int32.ofNat i)), none, none] [] (gzN, gzR0, I, J) z Q := by
  obtain ⟨v, I2, J2, hf, hm, hR⟩ := L_count (J := J) (gzXs g (i + 1)) h
  refine gz_aload_n (pc := 2714) dL_law__2714 rfl ?_
  refine gz_aload_n (pc := 2715) dL_law__2715 rfl ?_
  refine gz_iload (pc := 2716) dL_law__2716 rfl ?_
  refine gz_iconst (pc := 2718) dL_law__2718 (v := 1) (by decide) ?_
  refine gz_iadd (pc := 2719) dL_law__2719 ?_
  refine gz_sld (j := i + 1) (pc := 2720) dL_law__2720 (Int32.ofNat_add i 1).symm (by omega) ?_
  refine gz_V (zy := mX11_count) (zc := 0) (d := d + 129) (pc := 2721) (t := 0) (o := 30) (ci := 11) (r := (RX11, TX11, 13)) [.inl (gzXs g (i + 1))] rfl dL_law__2721 lkL_328 MvX11_count rfl (gzOk_of (by decide)) rfl rfl rfl (Or.inr rfl) (fun h => h) (by exact Nat.le_of_ble_eq_true rfl) ?_
  refine gz_useI (d := d + 129) (c_X11_count (d := d + 128) hf) ?_
  refine gz_aload_n (pc := 2724) dL_law__2724 rfl ?_
  refine gz_aload_n (pc := 2725) dL_law__2725 rfl ?_
  refine gz_iload (pc := 2726) dL_law__2726 rfl ?_
  refine gz_iconst (pc := 2728) dL_law__2728 (v := 1) (by decide) ?_
  refine gz_iadd (pc := 2729) dL_law__2729 ?_
  refine gz_sld (j := i + 1) (pc := 2730) dL_law__2730 (Int32.ofNat_add i 1).symm (by omega) ?_
  refine gz_V (zy := mX12_count) (zc := 0) (d := d + 129) (pc := 2731) (t := 0) (o := 47) (ci := 12) (r := (RX12, TX12, 21)) [.inl (gzXs g (i + 1))] rfl dL_law__2731 lkL_331 MvX12_count rfl (gzOk_of (by decide)) rfl rfl rfl (Or.inr rfl) (fun h => h) (by exact Nat.le_of_ble_eq_true rfl) ?_
  refine gz_useI (d := d + 129) (c_X12_count (d := d + 125) hm) ?_
  refine gz_ic_eq (pc := 2734) (tgt := 2739) dL_law__2734 (by decide) (fun _ => ?_) (fun c => absurd rfl c)
  exact K _ _ _ _ _ hR (Nat.le_refl _) (by omega)
