/-! the JDK's own: trailing zeros, how many bits -/
def ib (x : Int32) (i : Nat) : Bool := x.toBitVec.getLsbD i
theorem nz_mask {x : Int32} {k : Nat} (h1 : ib x k = true) (h2 : ∀ i, i < k → ib x i = false) (hk : k < 32) : (x ^^^ (-1)) &&& (x - 1) = nI (2 ^ k - 1) := by
  have hX := jb_low_nat (X := x.toBitVec.toNat) (k := k) h1 h2
  generalize hm : x.toBitVec.toNat / 2 ^ (k + 1) = q at hX
  have hlt : x.toBitVec.toNat < 2 ^ 32 := x.toBitVec.isLt
  have hp : 0 < 2 ^ k := Nat.two_pow_pos k
  have hb1 : 2 ^ k < 2 ^ (k + 1) := Nat.pow_lt_pow_right (by omega) (by omega)
  have e1 : (x - 1).toBitVec.toNat = 2 ^ (k + 1) * q + (2 ^ k - 1) := by
    rw [Int32.toBitVec_sub, BitVec.toNat_sub, show ((1 : Int32).toBitVec).toNat = 1 from rfl]
    omega
  refine Int32.toBitVec.inj (BitVec.eq_of_getLsbD_eq fun i hi => ?_)
  rw [Int32.toBitVec_and, BitVec.getLsbD_and, Int32.toBitVec_xor, BitVec.getLsbD_xor, show (-1 : Int32).toBitVec = BitVec.allOnes 32 from rfl, BitVec.getLsbD_allOnes, decide_eq_true hi, Bool.xor_true]
  have e2 : (nI (2 ^ k - 1)).toBitVec.getLsbD i = decide (i < k) := by
    show (BitVec.ofNat 32 (2 ^ k - 1)).getLsbD i = _
    rw [BitVec.getLsbD_ofNat, decide_eq_true hi, Bool.true_and, Nat.testBit_two_pow_sub_one]
  have e3 : x.toBitVec.getLsbD i = x.toBitVec.toNat.testBit i := rfl
  have e4 : (x - 1).toBitVec.getLsbD i = (x - 1).toBitVec.toNat.testBit i := rfl
  rw [e2, e3, e4, e1]
  conv => lhs; rw [hX]
  rw [Nat.testBit_two_pow_mul_add _ hb1, Nat.testBit_two_pow_mul_add _ (show 2 ^ k - 1 < 2 ^ (k + 1) by omega), Nat.testBit_two_pow, Nat.testBit_two_pow_sub_one]
  by_cases h3 : i < k + 1
  · rw [if_pos h3, if_pos h3]
    by_cases h4 : i < k
    · rw [decide_eq_true h4, decide_eq_false (show ¬ k = i by omega)]; rfl
    · rw [decide_eq_false h4, Bool.and_false]
  · rw [if_neg h3, if_neg h3, decide_eq_false (show ¬ i < k by omega)]
    simp
theorem nz_0 : ∀ k, k < 32 → (0 < nI (2 ^ k - 1) ↔ 0 < k) := by decide +kernel
theorem nz_16 : ∀ k, k < 32 → (nI (2 ^ k - 1) ≤ 65536 ↔ k ≤ 16) := by decide +kernel
theorem nz_8 : ∀ k, k < 17 → (nI (2 ^ k - 1) ≤ 256 ↔ k ≤ 8) := by decide +kernel
theorem nz_4 : ∀ k, k < 9 → (nI (2 ^ k - 1) ≤ 16 ↔ k ≤ 4) := by decide +kernel
theorem nz_2 : ∀ k, k < 5 → (nI (2 ^ k - 1) ≤ 4 ↔ k ≤ 2) := by decide +kernel
theorem nz_s16 : ∀ k, k < 32 → 16 < k → ((nI (2 ^ k - 1)).toUInt32 >>> ((16 : Int32).toUInt32 &&& Int32.toUInt32 31)).toInt32 = nI (2 ^ (k - 16) - 1) := by decide +kernel
theorem nz_s8 : ∀ k, k < 17 → 8 < k → ((nI (2 ^ k - 1)).toUInt32 >>> ((8 : Int32).toUInt32 &&& Int32.toUInt32 31)).toInt32 = nI (2 ^ (k - 8) - 1) := by decide +kernel
theorem nz_s4 : ∀ k, k < 9 → 4 < k → ((nI (2 ^ k - 1)).toUInt32 >>> ((4 : Int32).toUInt32 &&& Int32.toUInt32 31)).toInt32 = nI (2 ^ (k - 4) - 1) := by decide +kernel
theorem nz_s2 : ∀ k, k < 5 → 2 < k → ((nI (2 ^ k - 1)).toUInt32 >>> ((2 : Int32).toUInt32 &&& Int32.toUInt32 31)).toInt32 = nI (2 ^ (k - 2) - 1) := by decide +kernel
theorem nz_end : ∀ k, k < 3 → 0 < k → ∀ n, n < 32 → nI n + ((nI (2 ^ k - 1)).toUInt32 >>> ((1 : Int32).toUInt32 &&& Int32.toUInt32 31)).toInt32 = nI (n + k - 1) := by decide +kernel

set_option maxHeartbeats 4000000 in
set_option maxRecDepth 100000 in
theorem nz_at19 {p : Program} {l : Launch} {e : Env} {R : Room} {s : State} {m : MethodId} {args : Array Value} {below : List Frame} {meth : Method} {c : Code} {H : Heap} {locs : List Loc} {cells slots : Nat} {Q : State → Prop} (hx : p.tables.exec = Jvm.exec) (hb : c.code = cJ6_numberOfTrailingZeros) (hown : s.vm.findClass RJ6 = some m.cls) (hts : ∀ w ∈ wsJ6_numberOfTrailingZeros, w.before args s = true) {k n : Nat} (h1 : 0 < k) (h2 : k < 32) {ls : Array Slot} (hml : c.maxLocals = 2) (hl : lv_has ls 2 [(0, .int (nI (2 ^ k - 1))), (1, .int (nI n))]) (kk : ∀ (ls : Array Slot) (k2 n2 : Nat), 0 < k2 → k2 ≤ 16 → n2 + k2 = n + k → lv_has ls 2 [(0, .int (nI (2 ^ k2 - 1))), (1, .int (nI n2))] → W p l e R s m args below meth c H locs cells slots Q (F0 m 34 ls [])) : W p l e R s m args below meth c H locs cells slots Q (F0 m 19 ls []) := by
  refine lv_iload_n hx hb dJ6_numberOfTrailingZeros_19 rfl (lv_at hl 0 rfl) ?_
  refine lv_ldcw (v := 65536) hx hb hown (hts _ (woJ6_numberOfTrailingZeros _ wd_211)) dJ6_numberOfTrailingZeros_20 ?_
  refine lv_icmp_le (tgt := 34) hx hb dJ6_numberOfTrailingZeros_23 (by decide) (fun c1 => ?_) (fun c1 => ?_)
  · exact kk ls k n h1 ((nz_16 k h2).mp c1) rfl hl
  · have h3 : 16 < k := by have := mt (nz_16 k h2).mpr c1; omega
    obtain ⟨y_1, ey_1⟩ : ∃ y : Int32, y = (nI n) + 16 := ⟨_, rfl⟩
    refine lv_iinc (v := y_1) (lv' := [(1, .int y_1), (0, .int (nI (2 ^ k - 1)))]) hx hb dJ6_numberOfTrailingZeros_26 hl (k := 1) rfl (by rw [ey_1]; rfl) (by decide) rfl (fun ls hl => ?_)
    refine lv_iload_n hx hb dJ6_numberOfTrailingZeros_29 rfl (lv_at hl 1 rfl) ?_
    refine lv_bipush (v := 16) hx hb dJ6_numberOfTrailingZeros_30 (by decide) ?_
    refine lv_iushr (v := ((nI (2 ^ k - 1)).toUInt32 >>> ((16 : Int32).toUInt32 &&& Int32.toUInt32 31)).toInt32) hx hb dJ6_numberOfTrailingZeros_32 rfl ?_
    refine lv_istore_n (lv' := [(0, .int (((nI (2 ^ k - 1)).toUInt32 >>> ((16 : Int32).toUInt32 &&& Int32.toUInt32 31)).toInt32)), (1, .int y_1)]) hx hb dJ6_numberOfTrailingZeros_33 rfl hl (by decide) rfl (fun ls hl => ?_)
    refine kk _ (k - 16) (n + 16) (by omega) (by omega) (by omega) ?_
    rw [← nz_s16 k h2 h3, ← nI_add n 16]
    rw [ey_1] at hl
    exact lv_sub hl [0, 1] rfl

set_option maxHeartbeats 4000000 in
set_option maxRecDepth 100000 in
theorem nz_at34 {p : Program} {l : Launch} {e : Env} {R : Room} {s : State} {m : MethodId} {args : Array Value} {below : List Frame} {meth : Method} {c : Code} {H : Heap} {locs : List Loc} {cells slots : Nat} {Q : State → Prop} (hx : p.tables.exec = Jvm.exec) (hb : c.code = cJ6_numberOfTrailingZeros) (hown : s.vm.findClass RJ6 = some m.cls) (hts : ∀ w ∈ wsJ6_numberOfTrailingZeros, w.before args s = true) {k n : Nat} (h1 : 0 < k) (h2 : k < 17) {ls : Array Slot} (hml : c.maxLocals = 2) (hl : lv_has ls 2 [(0, .int (nI (2 ^ k - 1))), (1, .int (nI n))]) (kk : ∀ (ls : Array Slot) (k2 n2 : Nat), 0 < k2 → k2 ≤ 8 → n2 + k2 = n + k → lv_has ls 2 [(0, .int (nI (2 ^ k2 - 1))), (1, .int (nI n2))] → W p l e R s m args below meth c H locs cells slots Q (F0 m 49 ls [])) : W p l e R s m args below meth c H locs cells slots Q (F0 m 34 ls []) := by
  refine lv_iload_n hx hb dJ6_numberOfTrailingZeros_34 rfl (lv_at hl 0 rfl) ?_
  refine lv_sipush (v := 256) hx hb dJ6_numberOfTrailingZeros_35 (by decide) ?_
  refine lv_icmp_le (tgt := 49) hx hb dJ6_numberOfTrailingZeros_38 (by decide) (fun c1 => ?_) (fun c1 => ?_)
  · exact kk ls k n h1 ((nz_8 k h2).mp c1) rfl hl
  · have h3 : 8 < k := by have := mt (nz_8 k h2).mpr c1; omega
    obtain ⟨y_1, ey_1⟩ : ∃ y : Int32, y = (nI n) + 8 := ⟨_, rfl⟩
    refine lv_iinc (v := y_1) (lv' := [(1, .int y_1), (0, .int (nI (2 ^ k - 1)))]) hx hb dJ6_numberOfTrailingZeros_41 hl (k := 1) rfl (by rw [ey_1]; rfl) (by decide) rfl (fun ls hl => ?_)
    refine lv_iload_n hx hb dJ6_numberOfTrailingZeros_44 rfl (lv_at hl 1 rfl) ?_
    refine lv_bipush (v := 8) hx hb dJ6_numberOfTrailingZeros_45 (by decide) ?_
    refine lv_iushr (v := ((nI (2 ^ k - 1)).toUInt32 >>> ((8 : Int32).toUInt32 &&& Int32.toUInt32 31)).toInt32) hx hb dJ6_numberOfTrailingZeros_47 rfl ?_
    refine lv_istore_n (lv' := [(0, .int (((nI (2 ^ k - 1)).toUInt32 >>> ((8 : Int32).toUInt32 &&& Int32.toUInt32 31)).toInt32)), (1, .int y_1)]) hx hb dJ6_numberOfTrailingZeros_48 rfl hl (by decide) rfl (fun ls hl => ?_)
    refine kk _ (k - 8) (n + 8) (by omega) (by omega) (by omega) ?_
    rw [← nz_s8 k h2 h3, ← nI_add n 8]
    rw [ey_1] at hl
    exact lv_sub hl [0, 1] rfl

set_option maxHeartbeats 4000000 in
set_option maxRecDepth 100000 in
theorem nz_at49 {p : Program} {l : Launch} {e : Env} {R : Room} {s : State} {m : MethodId} {args : Array Value} {below : List Frame} {meth : Method} {c : Code} {H : Heap} {locs : List Loc} {cells slots : Nat} {Q : State → Prop} (hx : p.tables.exec = Jvm.exec) (hb : c.code = cJ6_numberOfTrailingZeros) (hown : s.vm.findClass RJ6 = some m.cls) (hts : ∀ w ∈ wsJ6_numberOfTrailingZeros, w.before args s = true) {k n : Nat} (h1 : 0 < k) (h2 : k < 9) {ls : Array Slot} (hml : c.maxLocals = 2) (hl : lv_has ls 2 [(0, .int (nI (2 ^ k - 1))), (1, .int (nI n))]) (kk : ∀ (ls : Array Slot) (k2 n2 : Nat), 0 < k2 → k2 ≤ 4 → n2 + k2 = n + k → lv_has ls 2 [(0, .int (nI (2 ^ k2 - 1))), (1, .int (nI n2))] → W p l e R s m args below meth c H locs cells slots Q (F0 m 62 ls [])) : W p l e R s m args below meth c H locs cells slots Q (F0 m 49 ls []) := by
  refine lv_iload_n hx hb dJ6_numberOfTrailingZeros_49 rfl (lv_at hl 0 rfl) ?_
  refine lv_bipush (v := 16) hx hb dJ6_numberOfTrailingZeros_50 (by decide) ?_
  refine lv_icmp_le (tgt := 62) hx hb dJ6_numberOfTrailingZeros_52 (by decide) (fun c1 => ?_) (fun c1 => ?_)
  · exact kk ls k n h1 ((nz_4 k h2).mp c1) rfl hl
  · have h3 : 4 < k := by have := mt (nz_4 k h2).mpr c1; omega
    obtain ⟨y_1, ey_1⟩ : ∃ y : Int32, y = (nI n) + 4 := ⟨_, rfl⟩
    refine lv_iinc (v := y_1) (lv' := [(1, .int y_1), (0, .int (nI (2 ^ k - 1)))]) hx hb dJ6_numberOfTrailingZeros_55 hl (k := 1) rfl (by rw [ey_1]; rfl) (by decide) rfl (fun ls hl => ?_)
    refine lv_iload_n hx hb dJ6_numberOfTrailingZeros_58 rfl (lv_at hl 1 rfl) ?_
    refine lv_iconst (v := 4) hx hb dJ6_numberOfTrailingZeros_59 (by decide) ?_
    refine lv_iushr (v := ((nI (2 ^ k - 1)).toUInt32 >>> ((4 : Int32).toUInt32 &&& Int32.toUInt32 31)).toInt32) hx hb dJ6_numberOfTrailingZeros_60 rfl ?_
    refine lv_istore_n (lv' := [(0, .int (((nI (2 ^ k - 1)).toUInt32 >>> ((4 : Int32).toUInt32 &&& Int32.toUInt32 31)).toInt32)), (1, .int y_1)]) hx hb dJ6_numberOfTrailingZeros_61 rfl hl (by decide) rfl (fun ls hl => ?_)
    refine kk _ (k - 4) (n + 4) (by omega) (by omega) (by omega) ?_
    rw [← nz_s4 k h2 h3, ← nI_add n 4]
    rw [ey_1] at hl
    exact lv_sub hl [0, 1] rfl

set_option maxHeartbeats 4000000 in
set_option maxRecDepth 100000 in
theorem nz_at62 {p : Program} {l : Launch} {e : Env} {R : Room} {s : State} {m : MethodId} {args : Array Value} {below : List Frame} {meth : Method} {c : Code} {H : Heap} {locs : List Loc} {cells slots : Nat} {Q : State → Prop} (hx : p.tables.exec = Jvm.exec) (hb : c.code = cJ6_numberOfTrailingZeros) (hown : s.vm.findClass RJ6 = some m.cls) (hts : ∀ w ∈ wsJ6_numberOfTrailingZeros, w.before args s = true) {k n : Nat} (h1 : 0 < k) (h2 : k < 5) {ls : Array Slot} (hml : c.maxLocals = 2) (hl : lv_has ls 2 [(0, .int (nI (2 ^ k - 1))), (1, .int (nI n))]) (kk : ∀ (ls : Array Slot) (k2 n2 : Nat), 0 < k2 → k2 ≤ 2 → n2 + k2 = n + k → lv_has ls 2 [(0, .int (nI (2 ^ k2 - 1))), (1, .int (nI n2))] → W p l e R s m args below meth c H locs cells slots Q (F0 m 74 ls [])) : W p l e R s m args below meth c H locs cells slots Q (F0 m 62 ls []) := by
  refine lv_iload_n hx hb dJ6_numberOfTrailingZeros_62 rfl (lv_at hl 0 rfl) ?_
  refine lv_iconst (v := 4) hx hb dJ6_numberOfTrailingZeros_63 (by decide) ?_
  refine lv_icmp_le (tgt := 74) hx hb dJ6_numberOfTrailingZeros_64 (by decide) (fun c1 => ?_) (fun c1 => ?_)
  · exact kk ls k n h1 ((nz_2 k h2).mp c1) rfl hl
  · have h3 : 2 < k := by have := mt (nz_2 k h2).mpr c1; omega
    obtain ⟨y_1, ey_1⟩ : ∃ y : Int32, y = (nI n) + 2 := ⟨_, rfl⟩
    refine lv_iinc (v := y_1) (lv' := [(1, .int y_1), (0, .int (nI (2 ^ k - 1)))]) hx hb dJ6_numberOfTrailingZeros_67 hl (k := 1) rfl (by rw [ey_1]; rfl) (by decide) rfl (fun ls hl => ?_)
    refine lv_iload_n hx hb dJ6_numberOfTrailingZeros_70 rfl (lv_at hl 1 rfl) ?_
    refine lv_iconst (v := 2) hx hb dJ6_numberOfTrailingZeros_71 (by decide) ?_
    refine lv_iushr (v := ((nI (2 ^ k - 1)).toUInt32 >>> ((2 : Int32).toUInt32 &&& Int32.toUInt32 31)).toInt32) hx hb dJ6_numberOfTrailingZeros_72 rfl ?_
    refine lv_istore_n (lv' := [(0, .int (((nI (2 ^ k - 1)).toUInt32 >>> ((2 : Int32).toUInt32 &&& Int32.toUInt32 31)).toInt32)), (1, .int y_1)]) hx hb dJ6_numberOfTrailingZeros_73 rfl hl (by decide) rfl (fun ls hl => ?_)
    refine kk _ (k - 2) (n + 2) (by omega) (by omega) (by omega) ?_
    rw [← nz_s2 k h2 h3, ← nI_add n 2]
    rw [ey_1] at hl
    exact lv_sub hl [0, 1] rfl

set_option maxHeartbeats 4000000 in
set_option maxRecDepth 100000 in
/-- Integer.numberOfTrailingZeros -/
theorem c_ntz32 (l : Launch) (x : Int32) (k : Nat) (hk : k < 32) (hb1 : ib x k = true) (hb2 : ∀ i, i < k → ib x i = false) : Met l yJ6_numberOfTrailingZeros wsJ6_numberOfTrailingZeros ({ frames := 0, cells := 0, slots := 0, locals := 0 }) (va_Pc [.int x] (fun _ => True)) (vp_Si (fun r => r = nI k)) 0 0 (fun _ => False) := by
  refine Met.ofW (cc := cJ6_numberOfTrailingZeros) (maxL := 2) (ret := (some .int)) (by decide) rfl ?_
  intro p e s m args below meth c s₁ B hml hv
  obtain ⟨rfl, -⟩ := hv
  have hx := B.exec
  have hb := B.bytes
  have hr := B.returns
  have hts := atoms_spec (ws := wsJ6_numberOfTrailingZeros) B.pre
  have hown : s.vm.findClass RJ6 = some m.cls := findClass_of_methodNamed B.named
  have hlocks := B.notSynchronized
  have hl := lv_entry ([.int x]) (n := 2) (Nat.le_of_ble_eq_true rfl)
  rw [lg_entry_eq]
  generalize (lg_sl ([.int x]) ++ List.replicate (2 - (lg_sl ([.int x])).length) Slot.unset).toArray = ls at hl ⊢
  have hl : lv_has ls 2 [(0, .int x)] := hl
  refine lv_iload_n hx hb dJ6_numberOfTrailingZeros_0 rfl (lv_at hl 0 rfl) ?_
  refine lv_iconst (v := (-1)) hx hb dJ6_numberOfTrailingZeros_1 (by decide) ?_
  refine lv_ixor hx hb dJ6_numberOfTrailingZeros_2 ?_
  refine lv_iload_n hx hb dJ6_numberOfTrailingZeros_3 rfl (lv_at hl 0 rfl) ?_
  refine lv_iconst (v := 1) hx hb dJ6_numberOfTrailingZeros_4 (by decide) ?_
  refine lv_isub hx hb dJ6_numberOfTrailingZeros_5 ?_
  refine lv_iand hx hb dJ6_numberOfTrailingZeros_6 ?_
  refine lv_topi (fun y ey => ?_)
  have ey : y = nI (2 ^ k - 1) := ey.trans (nz_mask hb1 hb2 hk)
  subst ey
  refine lv_istore_n (lv' := [(0, .int (nI (2 ^ k - 1)))]) hx hb dJ6_numberOfTrailingZeros_7 rfl hl (by decide) rfl (fun ls hl => ?_)
  refine lv_iload_n hx hb dJ6_numberOfTrailingZeros_8 rfl (lv_at hl 0 rfl) ?_
  refine lv_if_gt (tgt := 17) hx hb dJ6_numberOfTrailingZeros_9 (by decide) (fun c1 => ?_) (fun c1 => ?_)
  · have hk0 : 0 < k := (nz_0 k hk).mp c1
    refine lv_iconst (v := 1) hx hb dJ6_numberOfTrailingZeros_17 (by decide) ?_
    refine lv_istore_n (lv' := [(1, .int 1), (0, .int (nI (2 ^ k - 1)))]) hx hb dJ6_numberOfTrailingZeros_18 rfl hl (by decide) rfl (fun ls hl => ?_)
    refine nz_at19 hx hb hown hts hk0 hk hml (n := 1) (lv_sub hl [1, 0] rfl) (fun ls k2 n2 a1 a2 a3 hl => ?_)
    refine nz_at34 hx hb hown hts a1 (by omega) hml hl (fun ls k3 n3 b1 b2 b3 hl => ?_)
    refine nz_at49 hx hb hown hts b1 (by omega) hml hl (fun ls k4 n4 d1 d2 d3 hl => ?_)
    refine nz_at62 hx hb hown hts d1 (by omega) hml hl (fun ls k5 n5 f1 f2 f3 hl => ?_)
    refine lv_iload_n hx hb dJ6_numberOfTrailingZeros_74 rfl (lv_at hl 1 rfl) ?_
    refine lv_iload_n hx hb dJ6_numberOfTrailingZeros_75 rfl (lv_at hl 0 rfl) ?_
    refine lv_iconst (v := 1) hx hb dJ6_numberOfTrailingZeros_76 (by decide) ?_
    refine lv_iushr (v := ((nI (2 ^ k5 - 1)).toUInt32 >>> ((1 : Int32).toUInt32 &&& Int32.toUInt32 31)).toInt32) hx hb dJ6_numberOfTrailingZeros_77 rfl ?_
    refine lv_iadd hx hb dJ6_numberOfTrailingZeros_78 ?_
    exact W.iret (v := (nI n5) + (((nI (2 ^ k5 - 1)).toUInt32 >>> ((1 : Int32).toUInt32 &&& Int32.toUInt32 31)).toInt32)) hx hb hr (fun t9 ht9 _ => ⟨_, rfl, (nz_end k5 (by omega) f1 n5 (by omega)).trans (by congr 1; omega), ht9⟩) (fun q h => by cases h) dJ6_numberOfTrailingZeros_79
  · have hk0 : k = 0 := by have := mt (nz_0 k hk).mpr c1; omega
    refine lv_iload_n hx hb dJ6_numberOfTrailingZeros_12 rfl (lv_at hl 0 rfl) ?_
    refine lv_bipush (v := 32) hx hb dJ6_numberOfTrailingZeros_13 (by decide) ?_
    refine lv_iand hx hb dJ6_numberOfTrailingZeros_15 ?_
    exact W.iret (v := (nI (2 ^ k - 1)) &&& 32) hx hb hr (fun t9 ht9 _ => ⟨_, rfl, by rw [hk0]; decide, ht9⟩) (fun q h => by cases h) dJ6_numberOfTrailingZeros_16

theorem nz_lo {x : Int64} {k : Nat} (h1 : jb x k = true) (h2 : ∀ i, i < k → jb x i = false) : (x.toInt32 = 0 → 32 ≤ k) ∧ (¬ x.toInt32 = 0 → k < 32) := by
  have e : ∀ i, i < 32 → ib x.toInt32 i = jb x i := fun i hi => by
    show (x.toInt32.toBitVec).getLsbD i = _
    rw [Int64.toBitVec_toInt32, BitVec.getLsbD_signExtend, decide_eq_true hi, Bool.true_and, if_pos (show i < 64 by omega)]
    rfl
  refine ⟨fun h => ?_, fun h => ?_⟩
  · rcases Nat.lt_or_ge k 32 with q | q
    · have := e k q
      rw [h1, h] at this
      have z : ib 0 k = false := by
        show ((0 : Int32).toBitVec).getLsbD k = false
        rw [show (0 : Int32).toBitVec = 0#32 from rfl]; exact BitVec.getLsbD_zero
      rw [z] at this; cases this
    · exact q
  · rcases Nat.lt_or_ge k 32 with q | q
    · exact q
    · exfalso
      refine h (Int32.toBitVec.inj (BitVec.eq_of_getLsbD_eq fun i hi => ?_))
      have := e i hi
      rw [h2 i (by omega)] at this
      show ib x.toInt32 i = _
      rw [this, show (0 : Int32).toBitVec = 0#32 from rfl]
      exact BitVec.getLsbD_zero.symm
theorem nz_b1 {x : Int64} {i : Nat} (hi : i < 32) : ib x.toInt32 i = jb x i := by
  show (x.toInt32.toBitVec).getLsbD i = _
  rw [Int64.toBitVec_toInt32, BitVec.getLsbD_signExtend, decide_eq_true hi, Bool.true_and, if_pos (show i < 64 by omega)]
  rfl
theorem nz_b2 {x : Int64} {i : Nat} (hi : i < 32) : ib ((x.toUInt64 >>> ((32 : Int32).toInt64.toUInt64 &&& Int64.toUInt64 63)).toInt64).toInt32 i = jb x (32 + i) := by
  rw [nz_b1 hi]
  show ((x.toUInt64 >>> ((32 : Int32).toInt64.toUInt64 &&& Int64.toUInt64 63)).toBitVec).getLsbD i = _
  rw [UInt64.toBitVec_shiftRight]
  show (x.toBitVec >>> ((((32 : Int32).toInt64.toUInt64 &&& Int64.toUInt64 63)).toBitVec % 64)).getLsbD i = _
  rw [show ((((32 : Int32).toInt64.toUInt64 &&& Int64.toUInt64 63)).toBitVec % 64) = 32#64 from by decide +kernel, BitVec.ushiftRight_eq', BitVec.getLsbD_ushiftRight]
  rfl

set_option maxHeartbeats 4000000 in
set_option maxRecDepth 100000 in
/-- Long.numberOfTrailingZeros -/
theorem c_ntz (l : Launch) (x : Int64) (k : Nat) (hb1 : jb x k = true) (hb2 : ∀ i, i < k → jb x i = false) : Met l yJ13_numberOfTrailingZeros wsJ13_numberOfTrailingZeros ({ frames := 1, cells := 0, slots := 0, locals := 21 }) (va_Pc [.long x] (fun _ => True)) (vp_Si (fun r => r = nI k)) 0 0 (fun _ => False) := by
  refine Met.ofW (cc := cJ13_numberOfTrailingZeros) (maxL := 3) (ret := (some .int)) (by decide) rfl ?_
  intro p e s m args below meth c s₁ B hml hv
  obtain ⟨rfl, -⟩ := hv
  have hx := B.exec
  have hb := B.bytes
  have hr := B.returns
  have hts := atoms_spec (ws := wsJ13_numberOfTrailingZeros) B.pre
  have hown : s.vm.findClass RJ13 = some m.cls := findClass_of_methodNamed B.named
  have hlocks := B.notSynchronized
  have hl := lv_entry ([.long x]) (n := 3) (Nat.le_of_ble_eq_true rfl)
  rw [lg_entry_eq]
  generalize (lg_sl ([.long x]) ++ List.replicate (3 - (lg_sl ([.long x])).length) Slot.unset).toArray = ls at hl ⊢
  have hl : lv_has ls 3 [(0, .long x)] := hl
  have hk : k < 64 := jb_lt hb1
  refine lv_lload_n hx hb dJ13_numberOfTrailingZeros_0 rfl (lv_at hl 0 rfl) ?_
  refine lv_l2i (v := x.toInt32) hx hb dJ13_numberOfTrailingZeros_1 rfl ?_
  refine lv_istore_n (lv' := [(2, .int x.toInt32), (0, .long x)]) hx hb dJ13_numberOfTrailingZeros_2 rfl hl (by decide) rfl (fun ls hl => ?_)
  refine lv_iload_n hx hb dJ13_numberOfTrailingZeros_3 rfl (lv_at hl 0 rfl) ?_
  refine lv_if_ne (tgt := 21) hx hb dJ13_numberOfTrailingZeros_4 (by decide) (fun c1 => ?_) (fun c1 => ?_)
  · have h32 := (nz_lo hb1 hb2).2 c1
    refine lv_iload_n hx hb dJ13_numberOfTrailingZeros_21 rfl (lv_at hl 0 rfl) ?_
    refine vp_callSi (W.runS (As := [.int x.toInt32]) (rest := []) ⟨hx, hb, hml, hown, hts⟩ (c_ntz32 l x.toInt32 k h32 (by rw [nz_b1 h32]; exact hb1) (fun i hi => by rw [nz_b1 (by omega)]; exact hb2 i hi)) (va_cwS 1 hts (w0_goodS woJ13_numberOfTrailingZeros wd_210 wd_208 wd_209 wd_13) rfl rfl rfl (by decide +kernel) ⟨Nat.le_of_ble_eq_true rfl, Nat.le_of_ble_eq_true rfl⟩) ⟨fun a U g mk q => q, fun U hU hW => ⟨rfl, trivial⟩⟩ rfl rfl hl.1 rfl (lv_room (Nat.le_of_ble_eq_true rfl)) dJ13_numberOfTrailingZeros_22 ⟨Nat.zero_le _, Nat.zero_le _⟩) (fun r er => ?_)
    exact W.iret (v := r) hx hb hr (fun t9 ht9 _ => ⟨_, rfl, er, ht9⟩) (fun q h => by cases h) dJ13_numberOfTrailingZeros_25
  · have h32 := (nz_lo hb1 hb2).1 c1
    refine lv_bipush (v := 32) hx hb dJ13_numberOfTrailingZeros_7 (by decide) ?_
    refine lv_lload_n hx hb dJ13_numberOfTrailingZeros_9 rfl (lv_at hl 1 rfl) ?_
    refine lv_bipush (v := 32) hx hb dJ13_numberOfTrailingZeros_10 (by decide) ?_
    refine lv_lushr (v := (x.toUInt64 >>> ((32 : Int32).toInt64.toUInt64 &&& Int64.toUInt64 63)).toInt64) hx hb dJ13_numberOfTrailingZeros_12 rfl ?_
    refine lv_l2i (v := ((x.toUInt64 >>> ((32 : Int32).toInt64.toUInt64 &&& Int64.toUInt64 63)).toInt64).toInt32) hx hb dJ13_numberOfTrailingZeros_13 rfl ?_
    refine W.eq (g2 := F0 m 14 ls [.int (((x.toUInt64 >>> ((32 : Int32).toInt64.toUInt64 &&& Int64.toUInt64 63)).toInt64).toInt32), .int 32]) rfl ?_
    refine vp_callSi (W.runS (As := [.int (((x.toUInt64 >>> ((32 : Int32).toInt64.toUInt64 &&& Int64.toUInt64 63)).toInt64).toInt32)]) (rest := [.int 32]) ⟨hx, hb, hml, hown, hts⟩ (c_ntz32 l (((x.toUInt64 >>> ((32 : Int32).toInt64.toUInt64 &&& Int64.toUInt64 63)).toInt64).toInt32) (k - 32) (by omega) (by rw [nz_b2 (by omega), show 32 + (k - 32) = k by omega]; exact hb1) (fun i hi => by rw [nz_b2 (by omega)]; exact hb2 _ (by omega))) (va_cwS 1 hts (w0_goodS woJ13_numberOfTrailingZeros wd_210 wd_208 wd_209 wd_13) rfl rfl rfl (by decide +kernel) ⟨Nat.le_of_ble_eq_true rfl, Nat.le_of_ble_eq_true rfl⟩) ⟨fun a U g mk q => q, fun U hU hW => ⟨rfl, trivial⟩⟩ rfl rfl hl.1 rfl (lv_room (Nat.le_of_ble_eq_true rfl)) dJ13_numberOfTrailingZeros_14 ⟨Nat.zero_le _, Nat.zero_le _⟩) (fun r er => ?_)
    refine lv_iadd hx hb dJ13_numberOfTrailingZeros_17 ?_
    refine lv_goto (tgt := 25) hx hb dJ13_numberOfTrailingZeros_18 (by decide) ?_
    exact W.iret (v := 32 + r) hx hb hr (fun t9 ht9 _ => ⟨_, rfl, by rw [er, show (32 : Int32) = nI 32 from rfl, nI_add, show 32 + (k - 32) = k by omega], ht9⟩) (fun q h => by cases h) dJ13_numberOfTrailingZeros_25

theorem ts_nt {x : Bool} (h : ¬ x = true) : x = false := by cases x <;> simp_all

set_option maxHeartbeats 4000000 in
set_option maxRecDepth 100000 in
/-- leastOf: the lowest bit, -1 without -/
theorem c_leastOf (l : Launch) (x : Int64) : Met l yX3_leastOf wsX3_leastOf ({ frames := 2, cells := 0, slots := 0, locals := 43 }) (va_Pc [.long x] (fun _ => True)) (vp_Si (fun r => (x = 0 ∧ r = -1) ∨ ∃ k, jb_low x k ∧ r = nI k)) 0 0 (fun _ => False) := by
  refine Met.ofW (cc := cX3_leastOf) (maxL := 2) (ret := (some .int)) (by decide) rfl ?_
  intro p e s m args below meth c s₁ B hml hv
  obtain ⟨rfl, -⟩ := hv
  have hx := B.exec
  have hb := B.bytes
  have hr := B.returns
  have hts := atoms_spec (ws := wsX3_leastOf) B.pre
  have hown : s.vm.findClass RX3 = some m.cls := findClass_of_methodNamed B.named
  have hlocks := B.notSynchronized
  have hl := lv_entry ([.long x]) (n := 2) (Nat.le_of_ble_eq_true rfl)
  rw [lg_entry_eq]
  generalize (lg_sl ([.long x]) ++ List.replicate (2 - (lg_sl ([.long x])).length) Slot.unset).toArray = ls at hl ⊢
  have hl : lv_has ls 2 [(0, .long x)] := hl
  refine lv_lload_n hx hb dX3_leastOf_0 rfl (lv_at hl 0 rfl) ?_
  refine lv_lconst (v := 0) hx hb dX3_leastOf_1 (by decide) ?_
  refine W.lcmp hx hb dX3_leastOf_2 ?_
  refine lv_if_ne (tgt := 10) hx hb dX3_leastOf_3 (by decide) (fun c1 => ?_) (fun c1 => ?_)
  · have hne : ¬ x = 0 := fun z => c1 (lc_0.mpr z)
    obtain ⟨k, hk, hlow⟩ := jb_low_ex hne
    refine lv_lload_n hx hb dX3_leastOf_10 rfl (lv_at hl 0 rfl) ?_
    refine vp_callSi (W.runS (As := [.long x]) (rest := []) ⟨hx, hb, hml, hown, hts⟩ (c_ntz l x k hlow.1 (fun i hi => ts_nt (hlow.2 i hi))) (va_cwS 1 hts (w0_goodS woX3_leastOf wd_207 wd_228 wd_206 wd_12) rfl rfl rfl (by decide +kernel) ⟨Nat.le_of_ble_eq_true rfl, Nat.le_of_ble_eq_true rfl⟩) ⟨fun a U g mk q => q, fun U hU hW => ⟨rfl, trivial⟩⟩ rfl rfl hl.1 rfl (lv_room (Nat.le_of_ble_eq_true rfl)) dX3_leastOf_11 ⟨Nat.zero_le _, Nat.zero_le _⟩) (fun r er => ?_)
    exact W.iret (v := r) hx hb hr (fun t9 ht9 _ => ⟨_, rfl, Or.inr ⟨k, hlow, er⟩, ht9⟩) (fun q h => by cases h) dX3_leastOf_14
  · refine lv_iconst (v := (-1)) hx hb dX3_leastOf_6 (by decide) ?_
    refine lv_goto (tgt := 14) hx hb dX3_leastOf_7 (by decide) ?_
    exact W.iret (v := (-1)) hx hb hr (fun t9 ht9 _ => ⟨_, rfl, Or.inl ⟨lc_0.mp c1, rfl⟩, ht9⟩) (fun q h => by cases h) dX3_leastOf_14

