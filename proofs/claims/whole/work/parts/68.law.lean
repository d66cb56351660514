/-! THE LAW -/
def LIt (T : mx_T) (gb : Nat → Bool) : Prop := mx_wf T ∧ mx_hc T ∧ mx_pf T ∧ mx_p3 T ∧ mx_n T ≤ 60 ∧ ∀ t, t < mx_n T → mx_bu T t = gb (mx_sg T t)
def LI (T : mx_T) (gb : Nat → Bool) (F : mx_F) (po : Nat → Int32) (bs : Nat → Int32) (os : Nat → Int64) (sg : Nat → Int32) (fa : Nat → Int32) (fb : Nat → Int32) (fc : Nat → Int32) (ins : Nat → Int64) (bu : Int64) (fl : Nat → Int32) (fr : Nat → Int32) (fs : Nat → Int32) (nmp : Nat → Int32) (mep : Nat → Int64) (fup : Nat → Int64) (sup : Nat → Int64) (tup : Nat → Int64) (bep : Nat → Int64) (bdp : Nat → Int32) (unp : Int64) (mip : Int32) (isb : Nat → Int32) (isu : Nat → Int32) (pls : Nat → Int32) (msg : Nat → Int32) (at_ : Nat → Int32) (on : Nat → Int32) (tw : Nat → Int32) (sa : Nat → Int32) : Prop :=
  LIt T gb ∧ (rk_bu T bu ∧ tm_ok T sg fa fb fc os ∧ po_ok T po ∧ in_ok T ins ∧ md_B gb bs ∧ fk_3 T F fl fr fs ∧ ap_ok T nmp mep fup sup tup bep bdp mip ∧ unp = 0) ∧ md_T T isb pls msg at_ ∧ md_U T isu ∧ md_B gb isb ∧ fk_3 T F on tw sa
theorem lw_tkx {A : Nat → Prop} {s U : State} {H : Heap} {locs : List Loc} (htw : tkW s) (hzs : tk_us A s s.heap) (hstr : ∀ q ∈ tkS, ∃ a, vk_R RX3 q.1 q.2 a s) (hnc : tkN s) (hS : va_S A s.heap H locs) (hU : U.heap = H) (hW : s.WarmedH U.vm) : tkX U :=
  ⟨⟨htw.warm hW, ⟨by rw [hU]; exact ((hzs.1.kept hS.2.1).moved hW.alike).narrow (fun _ h => h.elim), by rw [hU]; exact ((hzs.2.kept hS.2.1).moved hW.alike).narrow (fun _ h => h.elim)⟩, fun q hq => by obtain ⟨a, ha⟩ := hstr q hq; exact ⟨a, ha.warm hW⟩⟩, hnc.1.moved hW.alike, hnc.2.1.moved hW.alike, hnc.2.2.moved hW.alike⟩
theorem gb_set {T : mx_T} {gb : Nat → Bool} {s0 : Nat} (h : ∀ t, t < mx_n T → mx_bu T t = gb (mx_sg T t)) (hu : ¬ us_P T s0) : ∀ t, t < mx_n T → mx_bu T t = (fun x => if x = s0 then true else gb x) (mx_sg T t) := fun t ht => by
  show _ = if mx_sg T t = s0 then true else gb (mx_sg T t)
  rw [if_neg (fun e => hu ⟨t, ht, e⟩)]
  exact h t ht
theorem gb_add {T : mx_T} {gb : Nat → Bool} {s0 : Nat} {qa qb qc : Option Nat} (h : ∀ t, t < mx_n T → mx_bu T t = gb (mx_sg T t)) : ∀ t, t < mx_n (mx_add T s0 qa qb qc (gb s0)) → mx_bu (mx_add T s0 qa qb qc (gb s0)) t = gb (mx_sg (mx_add T s0 qa qb qc (gb s0)) t) := fun t ht => by
  have ht : t < mx_n T + 1 := ht
  by_cases z : t = mx_n T
  · rw [z, ad_bn, ad_sn]
  · rw [ad_b (by omega), ad_s (by omega)]; exact h t (by omega)
theorem an_det {T : mx_T} (hn : mx_n T ≤ 60) {a b th : Int32} {A : Nat → Nat → Prop} (h : an_2 T a b th A) {x y : Nat} (hx : x < mx_n T) (hy : y < mx_n T) (ea : a = nI x) (eb : b = nI y) : th = 0 ∧ A x y := by
  rcases h with ⟨x', y', hx', hy', e1, e2, e3, e4⟩ | ⟨h1, -⟩
  · obtain rfl : x = x' := (nI_eq (by omega) (by omega)).mp (ea.symm.trans e1)
    obtain rfl : y = y' := (nI_eq (by omega) (by omega)).mp (eb.symm.trans e2)
    exact ⟨e3, e4⟩
  · exact absurd ⟨⟨x, hx, ea⟩, y, hy, eb⟩ h1
theorem an_bad {T : mx_T} {a b th : Int32} {A : Nat → Nat → Prop} (h : an_2 T a b th A) (hb : ¬ (ix (mx_n T) a ∧ ix (mx_n T) b)) : th = 1 := by
  rcases h with ⟨x', y', hx', hy', e1, e2, -⟩ | ⟨-, h2⟩
  · exact absurd ⟨⟨x', hx', e1⟩, y', hy', e2⟩ hb
  · exact h2
theorem zz_eq {r r' : Int32} {P : Prop} (h : zb r P) (h' : zb r' P) : r = r' := by
  rcases h with ⟨a, b⟩ | ⟨a, b⟩ <;> rcases h' with ⟨a', b'⟩ | ⟨a', b'⟩
  · exact a.trans a'.symm
  · exact absurd b b'
  · exact absurd b' b
  · exact a.trans a'.symm
theorem re_det {P : (Nat → Bool) → Prop} {m : Nat} {r r' : Int64} (h : re_P P m r) (h' : re_P P m r') : r = r' := by
  rcases h with ⟨a, b⟩ | ⟨a, b⟩ <;> rcases h' with ⟨a', b'⟩ | ⟨a', b'⟩
  · exact a.trans a'.symm
  · exact absurd a' b
  · exact absurd a b'
  · exact jb_ext (fun i _ => by rw [b, b'])
/-! THE LAW: where a call may throw -/
theorem zbl_0 {x : Int64} {r : Int32} {P : Prop} (h : zbl x P) (g : zb r P) (q : r = 0) : x = 0 := by
  rcases h with ⟨a, b⟩ | ⟨a, b⟩
  · exact absurd b (zb_f g q)
  · exact a
theorem zbl_1 {x : Int64} {r : Int32} {P : Prop} (h : zbl x P) (g : zb r P) (q : ¬ r = 0) : x = 1 := by
  rcases h with ⟨a, b⟩ | ⟨a, b⟩
  · exact a
  · exact absurd (zb_t g q) b
set_option maxRecDepth 100000 in
def lwW (cI cJ cZ : ClassId) (tA fA pA rA mA : Nat → Nat) (o ou0 : Nat) (T : mx_T) (gb : Nat → Bool) (F : mx_F) (po : Nat → Int32) (bs : Nat → Int32) (os : Nat → Int64) (sg : Nat → Int32) (fa : Nat → Int32) (fb : Nat → Int32) (fc : Nat → Int32) (ins : Nat → Int64) (bu : Int64) (fl : Nat → Int32) (fr : Nat → Int32) (fs : Nat → Int32) (nmp : Nat → Int32) (mep : Nat → Int64) (fup : Nat → Int64) (sup : Nat → Int64) (tup : Nat → Int64) (bep : Nat → Int64) (bdp : Nat → Int32) (unp : Int64) (mip : Int32) (nm : Nat → Int32) (me : Nat → Int64) (fu : Nat → Int64) (su : Nat → Int64) (tu : Nat → Int64) (be : Nat → Int64) (bd : Nat → Int32) (un : Int64) (mi : Int32) (isb : Nat → Int32) (isu : Nat → Int32) (pls : Nat → Int32) (msg : Nat → Int32) (at_ : Nat → Int32) (on : Nat → Int32) (tw : Nat → Int32) (sa : Nat → Int32) (le : Nat → Int32) (bl : Nat → Int32) (sd : Nat → Int32) (th : Int32) (jo : Int32) (ou : Nat → Int64) : va_W := [(o, .inr (3, [.ref (tA 0), .ref (fA 0), .ref (pA 0), .ref (rA 0)])), (tA 0, .inr (2, [.ref (tA 1), .ref (tA 2), .ref (tA 3), .ref (tA 4), .ref (tA 5), .ref (tA 6), .ref (tA 7), .ref (tA 8), .long bu, .int (nI (mx_n T))])), (tA 1, .inl (cI, 16, .inl po)), (tA 2, .inl (cZ, 16, .inl bs)), (tA 3, .inl (cJ, 16, .inr (.inl os))), (tA 4, .inl (cI, 60, .inl sg)), (tA 5, .inl (cI, 60, .inl fa)), (tA 6, .inl (cI, 60, .inl fb)), (tA 7, .inl (cI, 60, .inl fc)), (tA 8, .inl (cJ, 60, .inr (.inl ins))), (fA 0, .inr (0, [.ref (fA 1), .ref (fA 2), .ref (fA 3), .int (nI (mx_m F))])), (fA 1, .inl (cI, 40, .inl fl)), (fA 2, .inl (cI, 40, .inl fr)), (fA 3, .inl (cZ, 40, .inl fs)), (pA 0, .inr (1, [.ref (tA 0), .ref (pA 1), .ref (pA 2), .ref (pA 3), .ref (pA 4), .ref (pA 5), .ref (pA 6), .ref (pA 7), .long unp, .int mip])), (pA 1, .inl (cI, 60, .inl nmp)), (pA 2, .inl (cJ, 60, .inr (.inl mep))), (pA 3, .inl (cJ, 60, .inr (.inl fup))), (pA 4, .inl (cJ, 60, .inr (.inl sup))), (pA 5, .inl (cJ, 60, .inr (.inl tup))), (pA 6, .inl (cJ, 60, .inr (.inl bep))), (pA 7, .inl (cI, 60, .inl bdp)), (rA 0, .inr (1, [.ref (tA 0), .ref (rA 1), .ref (rA 2), .ref (rA 3), .ref (rA 4), .ref (rA 5), .ref (rA 6), .ref (rA 7), .long un, .int mi])), (rA 1, .inl (cI, 60, .inl nm)), (rA 2, .inl (cJ, 60, .inr (.inl me))), (rA 3, .inl (cJ, 60, .inr (.inl fu))), (rA 4, .inl (cJ, 60, .inr (.inl su))), (rA 5, .inl (cJ, 60, .inr (.inl tu))), (rA 6, .inl (cJ, 60, .inr (.inl be))), (rA 7, .inl (cI, 60, .inl bd)), (mA 0, .inr (4, [.int th, .ref (mA 1), .ref (mA 2), .ref (mA 3), .int (nI (mx_n T)), .int (nI (mx_m F)), .ref (mA 4), .ref (mA 5), .ref (mA 6), .ref (mA 7), .ref (mA 8), .ref (mA 9), .int jo, .ref (mA 10), .ref (mA 11)])), (mA 1, .inl (cZ, 16, .inl isb)), (mA 2, .inl (cZ, 16, .inl isu)), (mA 3, .inl (cI, 16, .inl pls)), (mA 4, .inl (cI, 60, .inl msg)), (mA 5, .inl (cI, 180, .inl at_)), (mA 6, .inl (cI, 40, .inl on)), (mA 7, .inl (cI, 40, .inl tw)), (mA 8, .inl (cZ, 40, .inl sa)), (mA 9, .inl (cI, 60, .inl le)), (mA 10, .inl (cZ, 3600, .inl bl)), (mA 11, .inl (cZ, 60, .inl sd)), (ou0, .inl (cJ, 1, .inr (.inl ou)))]
def lwKK (p : Program) (l : Launch) (e : Env) (s : State) (m : MethodId) (below : List Frame) (meth : Method) (c : Code) (Q : State → Prop) (b : Nat) (dC : Nat → ClassId) (dI : Nat → Nat → Nat) (cI cJ cZ : ClassId) (A : Nat → Prop) (tA fA pA rA mA : Nat → Nat) (o ou0 : Nat) (i cells slots pc : Nat) : Prop := ∀ (T : mx_T) (gb : Nat → Bool) (F : mx_F) (po : Nat → Int32) (bs : Nat → Int32) (os : Nat → Int64) (sg : Nat → Int32) (fa : Nat → Int32) (fb : Nat → Int32) (fc : Nat → Int32) (ins : Nat → Int64) (bu : Int64) (fl : Nat → Int32) (fr : Nat → Int32) (fs : Nat → Int32) (nmp : Nat → Int32) (mep : Nat → Int64) (fup : Nat → Int64) (sup : Nat → Int64) (tup : Nat → Int64) (bep : Nat → Int64) (bdp : Nat → Int32) (unp : Int64) (mip : Int32) (nm : Nat → Int32) (me : Nat → Int64) (fu : Nat → Int64) (su : Nat → Int64) (tu : Nat → Int64) (be : Nat → Int64) (bd : Nat → Int32) (un : Int64) (mi : Int32) (isb : Nat → Int32) (isu : Nat → Int32) (pls : Nat → Int32) (msg : Nat → Int32) (at_ : Nat → Int32) (on : Nat → Int32) (tw : Nat → Int32) (sa : Nat → Int32) (le : Nat → Int32) (bl : Nat → Int32) (sd : Nat → Int32) (th : Int32) (jo : Int32) (ou : Nat → Int64) (H : Heap) (locs : List Loc) (ls : Array Slot), LI T gb F po bs os sg fa fb fc ins bu fl fr fs nmp mep fup sup tup bep bdp unp mip isb isu pls msg at_ on tw sa → va_P (dC, dI) vwCl (lwW cI cJ cZ tA fA pA rA mA o ou0 T gb F po bs os sg fa fb fc ins bu fl fr fs nmp mep fup sup tup bep bdp unp mip nm me fu su tu be bd un mi isb isu pls msg at_ on tw sa le bl sd th jo ou) H → va_D A (lwW cI cJ cZ tA fA pA rA mA o ou0 T gb F po bs os sg fa fb fc ins bu fl fr fs nmp mep fup sup tup bep bdp unp mip nm me fu su tu be bd un mi isb isu pls msg at_ on tw sa le bl sd th jo ou) → va_S A s.heap H locs → lv_has ls 8 [(0, .ref b), (1, .ref o), (2, .ref (mA 0)), (3, .ref ou0), (4, .int (nI i))] → W p l e room_1 s m #[Value.ref b] below meth c H locs cells slots Q (F0 m pc ls [])
