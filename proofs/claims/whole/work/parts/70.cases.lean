/-! THE LAW: the cases, out of their roads -/
set_option maxHeartbeats 4000000 in
set_option maxRecDepth 100000 in
theorem lwc_2 {p : Program} {l : Launch} {e : Env} {s : State} {m : MethodId} {below : List Frame} {meth : Method} {c : Code} {Q : State → Prop} {b : Nat} {dC : Nat → ClassId} {dI : Nat → Nat → Nat} {cI cJ cZ : ClassId} {A : Nat → Prop} {tA fA pA rA mA : Nat → Nat} {o ou0 : Nat} {L : Nat} {xs : Nat → Int32} (hst : l.stackTraces = false) (hx : p.tables.exec = Jvm.exec) (hb : c.code = cL_law) (hown : s.vm.findClass RL = some m.cls) (hts : ∀ w ∈ lw_tbl, w.before #[Value.ref b] s = true) (hK : va_K (dC, dI) vwCl [(cI, .int), (cJ, .long), (cZ, .boolean)] s) (hNw : va_Nw nwL s) (hA : ∀ q : Nat, s.heap.size ≤ q → A q) (hX0 : va_X b L xs s s.heap) (hbl : b < s.heap.size) (hbA : ¬ A b) (htw : tkW s) (hzs : tk_us A s s.heap) (hstr : ∀ q ∈ tkS, ∃ a, vk_R RX3 q.1 q.2 a s) (hnc : tkN s) (hml : c.maxLocals = 8) (hL : L ≤ 2560) {i cells slots : Nat} (hi : i + 5 ≤ L) (hcl : cells + 1 ≤ 1074) (hsl : slots + 6 ≤ 13724) (kk : lwKK p l e s m below meth c Q b dC dI cI cJ cZ A tA fA pA rA mA o ou0 i (cells + 1) (slots + 6) 729) : lwKK p l e s m below meth c Q b dC dI cI cJ cZ A tA fA pA rA mA o ou0 i cells slots 232 := by
  intro T gb F po bs os sg fa fb fc ins bu fl fr fs nmp mep fup sup tup bep bdp unp mip nm me fu su tu be bd un mi isb isu pls msg at_ on tw sa le bl sd th jo ou H locs ls hI hP hD hS hl
  exact lw_2 hst hx hb hown hts hK hNw hA hX0 hbl hbA htw hzs hstr hnc hml hL hi hcl hsl hI hP hD hS hl kk

set_option maxHeartbeats 4000000 in
set_option maxRecDepth 100000 in
theorem lwc_12 {p : Program} {l : Launch} {e : Env} {s : State} {m : MethodId} {below : List Frame} {meth : Method} {c : Code} {Q : State → Prop} {b : Nat} {dC : Nat → ClassId} {dI : Nat → Nat → Nat} {cI cJ cZ : ClassId} {A : Nat → Prop} {tA fA pA rA mA : Nat → Nat} {o ou0 : Nat} {L : Nat} {xs : Nat → Int32} (hst : l.stackTraces = false) (hx : p.tables.exec = Jvm.exec) (hb : c.code = cL_law) (hown : s.vm.findClass RL = some m.cls) (hts : ∀ w ∈ lw_tbl, w.before #[Value.ref b] s = true) (hK : va_K (dC, dI) vwCl [(cI, .int), (cJ, .long), (cZ, .boolean)] s) (hNw : va_Nw nwL s) (hA : ∀ q : Nat, s.heap.size ≤ q → A q) (hX0 : va_X b L xs s s.heap) (hbl : b < s.heap.size) (hbA : ¬ A b) (htw : tkW s) (hzs : tk_us A s s.heap) (hstr : ∀ q ∈ tkS, ∃ a, vk_R RX3 q.1 q.2 a s) (hnc : tkN s) (hml : c.maxLocals = 8) (hL : L ≤ 2560) {i cells slots : Nat} (hi : i + 5 ≤ L) (hcl : cells + 1 ≤ 1074) (hsl : slots + 6 ≤ 13724) (kk : lwKK p l e s m below meth c Q b dC dI cI cJ cZ A tA fA pA rA mA o ou0 i (cells + 1) (slots + 6) 729) : lwKK p l e s m below meth c Q b dC dI cI cJ cZ A tA fA pA rA mA o ou0 i cells slots 704 := by
  intro T gb F po bs os sg fa fb fc ins bu fl fr fs nmp mep fup sup tup bep bdp unp mip nm me fu su tu be bd un mi isb isu pls msg at_ on tw sa le bl sd th jo ou H locs ls hI hP hD hS hl
  exact lw_12 hst hx hb hown hts hK hNw hA hX0 hbl hbA htw hzs hstr hnc hml hL hi hcl hsl hI hP hD hS hl kk

set_option maxHeartbeats 4000000 in
set_option maxRecDepth 100000 in
theorem lwc_6 {p : Program} {l : Launch} {e : Env} {s : State} {m : MethodId} {below : List Frame} {meth : Method} {c : Code} {Q : State → Prop} {b : Nat} {dC : Nat → ClassId} {dI : Nat → Nat → Nat} {cI cJ cZ : ClassId} {A : Nat → Prop} {tA fA pA rA mA : Nat → Nat} {o ou0 : Nat} {L : Nat} {xs : Nat → Int32} (hst : l.stackTraces = false) (hx : p.tables.exec = Jvm.exec) (hb : c.code = cL_law) (hown : s.vm.findClass RL = some m.cls) (hts : ∀ w ∈ lw_tbl, w.before #[Value.ref b] s = true) (hK : va_K (dC, dI) vwCl [(cI, .int), (cJ, .long), (cZ, .boolean)] s) (hNw : va_Nw nwL s) (hA : ∀ q : Nat, s.heap.size ≤ q → A q) (hX0 : va_X b L xs s s.heap) (hbl : b < s.heap.size) (hbA : ¬ A b) (htw : tkW s) (hzs : tk_us A s s.heap) (hstr : ∀ q ∈ tkS, ∃ a, vk_R RX3 q.1 q.2 a s) (hnc : tkN s) (hml : c.maxLocals = 8) (hL : L ≤ 2560) {i cells slots : Nat} (hi : i + 5 ≤ L) (hcl : cells + 1 ≤ 1074) (hsl : slots + 6 ≤ 13724) (kk : lwKK p l e s m below meth c Q b dC dI cI cJ cZ A tA fA pA rA mA o ou0 i (cells + 1) (slots + 6) 729) : lwKK p l e s m below meth c Q b dC dI cI cJ cZ A tA fA pA rA mA o ou0 i cells slots 453 := by
  intro T gb F po bs os sg fa fb fc ins bu fl fr fs nmp mep fup sup tup bep bdp unp mip nm me fu su tu be bd un mi isb isu pls msg at_ on tw sa le bl sd th jo ou H locs ls hI hP hD hS hl
  exact lw_6 hst hx hb hown hts hK hNw hA hX0 hbl hbA htw hzs hstr hnc hml hL hi hcl hsl hI hP hD hS hl kk

set_option maxHeartbeats 4000000 in
set_option maxRecDepth 100000 in
theorem lwc_10 {p : Program} {l : Launch} {e : Env} {s : State} {m : MethodId} {below : List Frame} {meth : Method} {c : Code} {Q : State → Prop} {b : Nat} {dC : Nat → ClassId} {dI : Nat → Nat → Nat} {cI cJ cZ : ClassId} {A : Nat → Prop} {tA fA pA rA mA : Nat → Nat} {o ou0 : Nat} {L : Nat} {xs : Nat → Int32} (hst : l.stackTraces = false) (hx : p.tables.exec = Jvm.exec) (hb : c.code = cL_law) (hown : s.vm.findClass RL = some m.cls) (hts : ∀ w ∈ lw_tbl, w.before #[Value.ref b] s = true) (hK : va_K (dC, dI) vwCl [(cI, .int), (cJ, .long), (cZ, .boolean)] s) (hNw : va_Nw nwL s) (hA : ∀ q : Nat, s.heap.size ≤ q → A q) (hX0 : va_X b L xs s s.heap) (hbl : b < s.heap.size) (hbA : ¬ A b) (htw : tkW s) (hzs : tk_us A s s.heap) (hstr : ∀ q ∈ tkS, ∃ a, vk_R RX3 q.1 q.2 a s) (hnc : tkN s) (hml : c.maxLocals = 8) (hL : L ≤ 2560) {i cells slots : Nat} (hi : i + 5 ≤ L) (hcl : cells + 1 ≤ 1074) (hsl : slots + 6 ≤ 13724) (kk : lwKK p l e s m below meth c Q b dC dI cI cJ cZ A tA fA pA rA mA o ou0 i (cells + 1) (slots + 6) 729) : lwKK p l e s m below meth c Q b dC dI cI cJ cZ A tA fA pA rA mA o ou0 i cells slots 676 := by
  intro T gb F po bs os sg fa fb fc ins bu fl fr fs nmp mep fup sup tup bep bdp unp mip nm me fu su tu be bd un mi isb isu pls msg at_ on tw sa le bl sd th jo ou H locs ls hI hP hD hS hl
  exact lw_10 hst hx hb hown hts hK hNw hA hX0 hbl hbA htw hzs hstr hnc hml hL hi hcl hsl hI hP hD hS hl kk

set_option maxHeartbeats 4000000 in
set_option maxRecDepth 100000 in
theorem lwc_11 {p : Program} {l : Launch} {e : Env} {s : State} {m : MethodId} {below : List Frame} {meth : Method} {c : Code} {Q : State → Prop} {b : Nat} {dC : Nat → ClassId} {dI : Nat → Nat → Nat} {cI cJ cZ : ClassId} {A : Nat → Prop} {tA fA pA rA mA : Nat → Nat} {o ou0 : Nat} {L : Nat} {xs : Nat → Int32} (hst : l.stackTraces = false) (hx : p.tables.exec = Jvm.exec) (hb : c.code = cL_law) (hown : s.vm.findClass RL = some m.cls) (hts : ∀ w ∈ lw_tbl, w.before #[Value.ref b] s = true) (hK : va_K (dC, dI) vwCl [(cI, .int), (cJ, .long), (cZ, .boolean)] s) (hNw : va_Nw nwL s) (hA : ∀ q : Nat, s.heap.size ≤ q → A q) (hX0 : va_X b L xs s s.heap) (hbl : b < s.heap.size) (hbA : ¬ A b) (htw : tkW s) (hzs : tk_us A s s.heap) (hstr : ∀ q ∈ tkS, ∃ a, vk_R RX3 q.1 q.2 a s) (hnc : tkN s) (hml : c.maxLocals = 8) (hL : L ≤ 2560) {i cells slots : Nat} (hi : i + 5 ≤ L) (hcl : cells + 1 ≤ 1074) (hsl : slots + 6 ≤ 13724) (kk : lwKK p l e s m below meth c Q b dC dI cI cJ cZ A tA fA pA rA mA o ou0 i (cells + 1) (slots + 6) 729) : lwKK p l e s m below meth c Q b dC dI cI cJ cZ A tA fA pA rA mA o ou0 i cells slots 690 := by
  intro T gb F po bs os sg fa fb fc ins bu fl fr fs nmp mep fup sup tup bep bdp unp mip nm me fu su tu be bd un mi isb isu pls msg at_ on tw sa le bl sd th jo ou H locs ls hI hP hD hS hl
  exact lw_11 hst hx hb hown hts hK hNw hA hX0 hbl hbA htw hzs hstr hnc hml hL hi hcl hsl hI hP hD hS hl kk

set_option maxHeartbeats 4000000 in
set_option maxRecDepth 100000 in
theorem lwc_4 {p : Program} {l : Launch} {e : Env} {s : State} {m : MethodId} {below : List Frame} {meth : Method} {c : Code} {Q : State → Prop} {b : Nat} {dC : Nat → ClassId} {dI : Nat → Nat → Nat} {cI cJ cZ : ClassId} {A : Nat → Prop} {tA fA pA rA mA : Nat → Nat} {o ou0 : Nat} {L : Nat} {xs : Nat → Int32} (hst : l.stackTraces = false) (hx : p.tables.exec = Jvm.exec) (hb : c.code = cL_law) (hown : s.vm.findClass RL = some m.cls) (hts : ∀ w ∈ lw_tbl, w.before #[Value.ref b] s = true) (hK : va_K (dC, dI) vwCl [(cI, .int), (cJ, .long), (cZ, .boolean)] s) (hNw : va_Nw nwL s) (hA : ∀ q : Nat, s.heap.size ≤ q → A q) (hX0 : va_X b L xs s s.heap) (hbl : b < s.heap.size) (hbA : ¬ A b) (htw : tkW s) (hzs : tk_us A s s.heap) (hstr : ∀ q ∈ tkS, ∃ a, vk_R RX3 q.1 q.2 a s) (hnc : tkN s) (hml : c.maxLocals = 8) (hL : L ≤ 2560) {i cells slots : Nat} (hi : i + 5 ≤ L) (hcl : cells + 1 ≤ 1074) (hsl : slots + 6 ≤ 13724) (kk : lwKK p l e s m below meth c Q b dC dI cI cJ cZ A tA fA pA rA mA o ou0 i (cells + 1) (slots + 6) 729) : lwKK p l e s m below meth c Q b dC dI cI cJ cZ A tA fA pA rA mA o ou0 i cells slots 365 := by
  intro T gb F po bs os sg fa fb fc ins bu fl fr fs nmp mep fup sup tup bep bdp unp mip nm me fu su tu be bd un mi isb isu pls msg at_ on tw sa le bl sd th jo ou H locs ls hI hP hD hS hl
  exact lw_4 hst hx hb hown hts hK hNw hA hX0 hbl hbA htw hzs hstr hnc hml hL hi hcl hsl hI hP hD hS hl kk

set_option maxHeartbeats 4000000 in
set_option maxRecDepth 100000 in
theorem lwc_5 {p : Program} {l : Launch} {e : Env} {s : State} {m : MethodId} {below : List Frame} {meth : Method} {c : Code} {Q : State → Prop} {b : Nat} {dC : Nat → ClassId} {dI : Nat → Nat → Nat} {cI cJ cZ : ClassId} {A : Nat → Prop} {tA fA pA rA mA : Nat → Nat} {o ou0 : Nat} {L : Nat} {xs : Nat → Int32} (hst : l.stackTraces = false) (hx : p.tables.exec = Jvm.exec) (hb : c.code = cL_law) (hown : s.vm.findClass RL = some m.cls) (hts : ∀ w ∈ lw_tbl, w.before #[Value.ref b] s = true) (hK : va_K (dC, dI) vwCl [(cI, .int), (cJ, .long), (cZ, .boolean)] s) (hNw : va_Nw nwL s) (hA : ∀ q : Nat, s.heap.size ≤ q → A q) (hX0 : va_X b L xs s s.heap) (hbl : b < s.heap.size) (hbA : ¬ A b) (htw : tkW s) (hzs : tk_us A s s.heap) (hstr : ∀ q ∈ tkS, ∃ a, vk_R RX3 q.1 q.2 a s) (hnc : tkN s) (hml : c.maxLocals = 8) (hL : L ≤ 2560) {i cells slots : Nat} (hi : i + 5 ≤ L) (hcl : cells + 1 ≤ 1074) (hsl : slots + 6 ≤ 13724) (kk : lwKK p l e s m below meth c Q b dC dI cI cJ cZ A tA fA pA rA mA o ou0 i (cells + 1) (slots + 6) 729) : lwKK p l e s m below meth c Q b dC dI cI cJ cZ A tA fA pA rA mA o ou0 i cells slots 378 := by
  intro T gb F po bs os sg fa fb fc ins bu fl fr fs nmp mep fup sup tup bep bdp unp mip nm me fu su tu be bd un mi isb isu pls msg at_ on tw sa le bl sd th jo ou H locs ls hI hP hD hS hl
  by_cases hg : ix (mx_n T) (xs (i + 1)) ∧ ix (mx_n T) (xs (i + 2))
  · exact lw_5a hst hx hb hown hts hK hNw hA hX0 hbl hbA htw hzs hstr hnc hml hL hi hcl hsl hI hP hD hS hl hg kk
  · exact lw_5b hst hx hb hown hts hK hNw hA hX0 hbl hbA htw hzs hstr hnc hml hL hi hcl hsl hI hP hD hS hl hg kk

set_option maxHeartbeats 4000000 in
set_option maxRecDepth 100000 in
theorem lwc_7 {p : Program} {l : Launch} {e : Env} {s : State} {m : MethodId} {below : List Frame} {meth : Method} {c : Code} {Q : State → Prop} {b : Nat} {dC : Nat → ClassId} {dI : Nat → Nat → Nat} {cI cJ cZ : ClassId} {A : Nat → Prop} {tA fA pA rA mA : Nat → Nat} {o ou0 : Nat} {L : Nat} {xs : Nat → Int32} (hst : l.stackTraces = false) (hx : p.tables.exec = Jvm.exec) (hb : c.code = cL_law) (hown : s.vm.findClass RL = some m.cls) (hts : ∀ w ∈ lw_tbl, w.before #[Value.ref b] s = true) (hK : va_K (dC, dI) vwCl [(cI, .int), (cJ, .long), (cZ, .boolean)] s) (hNw : va_Nw nwL s) (hA : ∀ q : Nat, s.heap.size ≤ q → A q) (hX0 : va_X b L xs s s.heap) (hbl : b < s.heap.size) (hbA : ¬ A b) (htw : tkW s) (hzs : tk_us A s s.heap) (hstr : ∀ q ∈ tkS, ∃ a, vk_R RX3 q.1 q.2 a s) (hnc : tkN s) (hml : c.maxLocals = 8) (hL : L ≤ 2560) {i cells slots : Nat} (hi : i + 5 ≤ L) (hcl : cells + 1 ≤ 1074) (hsl : slots + 6 ≤ 13724) (kk : lwKK p l e s m below meth c Q b dC dI cI cJ cZ A tA fA pA rA mA o ou0 i (cells + 1) (slots + 6) 729) : lwKK p l e s m below meth c Q b dC dI cI cJ cZ A tA fA pA rA mA o ou0 i cells slots 466 := by
  intro T gb F po bs os sg fa fb fc ins bu fl fr fs nmp mep fup sup tup bep bdp unp mip nm me fu su tu be bd un mi isb isu pls msg at_ on tw sa le bl sd th jo ou H locs ls hI hP hD hS hl
  by_cases hg : ix (mx_n T) (xs (i + 1)) ∧ ix (mx_n T) (xs (i + 2))
  · exact lw_7a hst hx hb hown hts hK hNw hA hX0 hbl hbA htw hzs hstr hnc hml hL hi hcl hsl hI hP hD hS hl hg kk
  · exact lw_7b hst hx hb hown hts hK hNw hA hX0 hbl hbA htw hzs hstr hnc hml hL hi hcl hsl hI hP hD hS hl hg kk

set_option maxHeartbeats 4000000 in
set_option maxRecDepth 100000 in
theorem lwc_8 {p : Program} {l : Launch} {e : Env} {s : State} {m : MethodId} {below : List Frame} {meth : Method} {c : Code} {Q : State → Prop} {b : Nat} {dC : Nat → ClassId} {dI : Nat → Nat → Nat} {cI cJ cZ : ClassId} {A : Nat → Prop} {tA fA pA rA mA : Nat → Nat} {o ou0 : Nat} {L : Nat} {xs : Nat → Int32} (hst : l.stackTraces = false) (hx : p.tables.exec = Jvm.exec) (hb : c.code = cL_law) (hown : s.vm.findClass RL = some m.cls) (hts : ∀ w ∈ lw_tbl, w.before #[Value.ref b] s = true) (hK : va_K (dC, dI) vwCl [(cI, .int), (cJ, .long), (cZ, .boolean)] s) (hNw : va_Nw nwL s) (hA : ∀ q : Nat, s.heap.size ≤ q → A q) (hX0 : va_X b L xs s s.heap) (hbl : b < s.heap.size) (hbA : ¬ A b) (htw : tkW s) (hzs : tk_us A s s.heap) (hstr : ∀ q ∈ tkS, ∃ a, vk_R RX3 q.1 q.2 a s) (hnc : tkN s) (hml : c.maxLocals = 8) (hL : L ≤ 2560) {i cells slots : Nat} (hi : i + 5 ≤ L) (hcl : cells + 1 ≤ 1074) (hsl : slots + 6 ≤ 13724) (kk : lwKK p l e s m below meth c Q b dC dI cI cJ cZ A tA fA pA rA mA o ou0 i (cells + 1) (slots + 6) 729) : lwKK p l e s m below meth c Q b dC dI cI cJ cZ A tA fA pA rA mA o ou0 i cells slots 541 := by
  intro T gb F po bs os sg fa fb fc ins bu fl fr fs nmp mep fup sup tup bep bdp unp mip nm me fu su tu be bd un mi isb isu pls msg at_ on tw sa le bl sd th jo ou H locs ls hI hP hD hS hl
  by_cases hg : ix (mx_n T) (xs (i + 1)) ∧ ix (mx_n T) (xs (i + 1))
  · exact lw_8a hst hx hb hown hts hK hNw hA hX0 hbl hbA htw hzs hstr hnc hml hL hi hcl hsl hI hP hD hS hl hg kk
  · exact lw_8b hst hx hb hown hts hK hNw hA hX0 hbl hbA htw hzs hstr hnc hml hL hi hcl hsl hI hP hD hS hl hg kk

set_option maxHeartbeats 4000000 in
set_option maxRecDepth 100000 in
theorem lwc_9 {p : Program} {l : Launch} {e : Env} {s : State} {m : MethodId} {below : List Frame} {meth : Method} {c : Code} {Q : State → Prop} {b : Nat} {dC : Nat → ClassId} {dI : Nat → Nat → Nat} {cI cJ cZ : ClassId} {A : Nat → Prop} {tA fA pA rA mA : Nat → Nat} {o ou0 : Nat} {L : Nat} {xs : Nat → Int32} (hst : l.stackTraces = false) (hx : p.tables.exec = Jvm.exec) (hb : c.code = cL_law) (hown : s.vm.findClass RL = some m.cls) (hts : ∀ w ∈ lw_tbl, w.before #[Value.ref b] s = true) (hK : va_K (dC, dI) vwCl [(cI, .int), (cJ, .long), (cZ, .boolean)] s) (hNw : va_Nw nwL s) (hA : ∀ q : Nat, s.heap.size ≤ q → A q) (hX0 : va_X b L xs s s.heap) (hbl : b < s.heap.size) (hbA : ¬ A b) (htw : tkW s) (hzs : tk_us A s s.heap) (hstr : ∀ q ∈ tkS, ∃ a, vk_R RX3 q.1 q.2 a s) (hnc : tkN s) (hml : c.maxLocals = 8) (hL : L ≤ 2560) {i cells slots : Nat} (hi : i + 5 ≤ L) (hcl : cells + 1 ≤ 1074) (hsl : slots + 6 ≤ 13724) (kk : lwKK p l e s m below meth c Q b dC dI cI cJ cZ A tA fA pA rA mA o ou0 i (cells + 1) (slots + 6) 729) : lwKK p l e s m below meth c Q b dC dI cI cJ cZ A tA fA pA rA mA o ou0 i cells slots 609 := by
  intro T gb F po bs os sg fa fb fc ins bu fl fr fs nmp mep fup sup tup bep bdp unp mip nm me fu su tu be bd un mi isb isu pls msg at_ on tw sa le bl sd th jo ou H locs ls hI hP hD hS hl
  by_cases hg : ix (mx_n T) (xs (i + 1)) ∧ ix (mx_n T) (xs (i + 2))
  · exact lw_9a hst hx hb hown hts hK hNw hA hX0 hbl hbA htw hzs hstr hnc hml hL hi hcl hsl hI hP hD hS hl hg kk
  · exact lw_9b hst hx hb hown hts hK hNw hA hX0 hbl hbA htw hzs hstr hnc hml hL hi hcl hsl hI hP hD hS hl hg kk

set_option maxHeartbeats 4000000 in
set_option maxRecDepth 100000 in
theorem lwc_0 {p : Program} {l : Launch} {e : Env} {s : State} {m : MethodId} {below : List Frame} {meth : Method} {c : Code} {Q : State → Prop} {b : Nat} {dC : Nat → ClassId} {dI : Nat → Nat → Nat} {cI cJ cZ : ClassId} {A : Nat → Prop} {tA fA pA rA mA : Nat → Nat} {o ou0 : Nat} {L : Nat} {xs : Nat → Int32} (hst : l.stackTraces = false) (hx : p.tables.exec = Jvm.exec) (hb : c.code = cL_law) (hown : s.vm.findClass RL = some m.cls) (hts : ∀ w ∈ lw_tbl, w.before #[Value.ref b] s = true) (hK : va_K (dC, dI) vwCl [(cI, .int), (cJ, .long), (cZ, .boolean)] s) (hNw : va_Nw nwL s) (hA : ∀ q : Nat, s.heap.size ≤ q → A q) (hX0 : va_X b L xs s s.heap) (hbl : b < s.heap.size) (hbA : ¬ A b) (htw : tkW s) (hzs : tk_us A s s.heap) (hstr : ∀ q ∈ tkS, ∃ a, vk_R RX3 q.1 q.2 a s) (hnc : tkN s) (hml : c.maxLocals = 8) (hL : L ≤ 2560) {i cells slots : Nat} (hi : i + 5 ≤ L) (hcl : cells + 1 ≤ 1074) (hsl : slots + 6 ≤ 13724) (kk : lwKK p l e s m below meth c Q b dC dI cI cJ cZ A tA fA pA rA mA o ou0 i (cells + 1) (slots + 6) 729) : lwKK p l e s m below meth c Q b dC dI cI cJ cZ A tA fA pA rA mA o ou0 i cells slots 104 := by
  intro T gb F po bs os sg fa fb fc ins bu fl fr fs nmp mep fup sup tup bep bdp unp mip nm me fu su tu be bd un mi isb isu pls msg at_ on tw sa le bl sd th jo ou H locs ls hI hP hD hS hl
  by_cases hg : ix 16 (xs (i + 1))
  · obtain ⟨s0, hs0, es⟩ := hg
    by_cases hu : us_P T s0
    · exact lw_0a hst hx hb hown hts hK hNw hA hX0 hbl hbA htw hzs hstr hnc hml hL hi hcl hsl hI hP hD hS hl s0 hs0 es hu kk
    · exact lw_0b hst hx hb hown hts hK hNw hA hX0 hbl hbA htw hzs hstr hnc hml hL hi hcl hsl hI hP hD hS hl s0 hs0 es hu kk
  · exact lw_0c hst hx hb hown hts hK hNw hA hX0 hbl hbA htw hzs hstr hnc hml hL hi hcl hsl hI hP hD hS hl hg kk

set_option maxHeartbeats 4000000 in
set_option maxRecDepth 100000 in
theorem lwc_1 {p : Program} {l : Launch} {e : Env} {s : State} {m : MethodId} {below : List Frame} {meth : Method} {c : Code} {Q : State → Prop} {b : Nat} {dC : Nat → ClassId} {dI : Nat → Nat → Nat} {cI cJ cZ : ClassId} {A : Nat → Prop} {tA fA pA rA mA : Nat → Nat} {o ou0 : Nat} {L : Nat} {xs : Nat → Int32} (hst : l.stackTraces = false) (hx : p.tables.exec = Jvm.exec) (hb : c.code = cL_law) (hown : s.vm.findClass RL = some m.cls) (hts : ∀ w ∈ lw_tbl, w.before #[Value.ref b] s = true) (hK : va_K (dC, dI) vwCl [(cI, .int), (cJ, .long), (cZ, .boolean)] s) (hNw : va_Nw nwL s) (hA : ∀ q : Nat, s.heap.size ≤ q → A q) (hX0 : va_X b L xs s s.heap) (hbl : b < s.heap.size) (hbA : ¬ A b) (htw : tkW s) (hzs : tk_us A s s.heap) (hstr : ∀ q ∈ tkS, ∃ a, vk_R RX3 q.1 q.2 a s) (hnc : tkN s) (hml : c.maxLocals = 8) (hL : L ≤ 2560) {i cells slots : Nat} (hi : i + 5 ≤ L) (hcl : cells + 1 ≤ 1074) (hsl : slots + 6 ≤ 13724) (kk : lwKK p l e s m below meth c Q b dC dI cI cJ cZ A tA fA pA rA mA o ou0 i (cells + 1) (slots + 6) 729) : lwKK p l e s m below meth c Q b dC dI cI cJ cZ A tA fA pA rA mA o ou0 i cells slots 140 := by
  intro T gb F po bs os sg fa fb fc ins bu fl fr fs nmp mep fup sup tup bep bdp unp mip nm me fu su tu be bd un mi isb isu pls msg at_ on tw sa le bl sd th jo ou H locs ls hI hP hD hS hl
  by_cases hg : ix 16 (xs (i + 1)) ∧ ∃ qa qb qc, tp_ok (mx_n T) (xs (i + 2)) (xs (i + 3)) (xs (i + 4)) qa qb qc
  · obtain ⟨⟨s0, hs0, es⟩, qa, qb, qc, htp⟩ := hg
    by_cases hm : te_mis T s0 qa qb qc
    · exact lw_1a hst hx hb hown hts hK hNw hA hX0 hbl hbA htw hzs hstr hnc hml hL hi hcl hsl hI hP hD hS hl s0 hs0 es qa qb qc htp hm kk
    · by_cases hy : ∃ t, t < mx_n T ∧ te_is T s0 qa qb qc t
      · exact lw_1b hst hx hb hown hts hK hNw hA hX0 hbl hbA htw hzs hstr hnc hml hL hi hcl hsl hI hP hD hS hl s0 hs0 es qa qb qc htp hm hy kk
      · have hno : ∀ t, t < mx_n T → ¬ te_is T s0 qa qb qc t := fun t h1 h2 => hy ⟨t, h1, h2⟩
        by_cases hlt : mx_n T < 60
        · exact lw_1c hst hx hb hown hts hK hNw hA hX0 hbl hbA htw hzs hstr hnc hml hL hi hcl hsl hI hP hD hS hl s0 hs0 es qa qb qc htp hm hno hlt kk
        · exact lw_1d hst hx hb hown hts hK hNw hA hX0 hbl hbA htw hzs hstr hnc hml hL hi hcl hsl hI hP hD hS hl s0 hs0 es qa qb qc htp hm hno hlt kk
  · exact lw_1e hst hx hb hown hts hK hNw hA hX0 hbl hbA htw hzs hstr hnc hml hL hi hcl hsl hI hP hD hS hl hg kk

set_option maxHeartbeats 4000000 in
set_option maxRecDepth 100000 in
theorem lwc_3 {p : Program} {l : Launch} {e : Env} {s : State} {m : MethodId} {below : List Frame} {meth : Method} {c : Code} {Q : State → Prop} {b : Nat} {dC : Nat → ClassId} {dI : Nat → Nat → Nat} {cI cJ cZ : ClassId} {A : Nat → Prop} {tA fA pA rA mA : Nat → Nat} {o ou0 : Nat} {L : Nat} {xs : Nat → Int32} (hst : l.stackTraces = false) (hx : p.tables.exec = Jvm.exec) (hb : c.code = cL_law) (hown : s.vm.findClass RL = some m.cls) (hts : ∀ w ∈ lw_tbl, w.before #[Value.ref b] s = true) (hK : va_K (dC, dI) vwCl [(cI, .int), (cJ, .long), (cZ, .boolean)] s) (hNw : va_Nw nwL s) (hA : ∀ q : Nat, s.heap.size ≤ q → A q) (hX0 : va_X b L xs s s.heap) (hbl : b < s.heap.size) (hbA : ¬ A b) (htw : tkW s) (hzs : tk_us A s s.heap) (hstr : ∀ q ∈ tkS, ∃ a, vk_R RX3 q.1 q.2 a s) (hnc : tkN s) (hml : c.maxLocals = 8) (hL : L ≤ 2560) {i cells slots : Nat} (hi : i + 5 ≤ L) (hcl : cells + 1 ≤ 1074) (hsl : slots + 6 ≤ 13724) (kk : lwKK p l e s m below meth c Q b dC dI cI cJ cZ A tA fA pA rA mA o ou0 i (cells + 1) (slots + 6) 729) : lwKK p l e s m below meth c Q b dC dI cI cJ cZ A tA fA pA rA mA o ou0 i cells slots 269 := by
  intro T gb F po bs os sg fa fb fc ins bu fl fr fs nmp mep fup sup tup bep bdp unp mip nm me fu su tu be bd un mi isb isu pls msg at_ on tw sa le bl sd th jo ou H locs ls hI hP hD hS hl
  by_cases c0 : xs (i + 3) = 0
  · by_cases hg : ix (mx_n T) (xs (i + 1)) ∧ ix (mx_n T) (xs (i + 2))
    · obtain ⟨⟨x0, hx0, ex⟩, y0, hy0, ey⟩ := hg
      by_cases hm : mx_m F < 40
      · exact lw_3a0 hst hx hb hown hts hK hNw hA hX0 hbl hbA htw hzs hstr hnc hml hL hi hcl hsl hI hP hD hS hl c0 x0 y0 hx0 hy0 ex ey hm kk
      · exact lw_3b0 hst hx hb hown hts hK hNw hA hX0 hbl hbA htw hzs hstr hnc hml hL hi hcl hsl hI hP hD hS hl c0 x0 y0 hx0 hy0 ex ey hm kk
    · exact lw_3c0 hst hx hb hown hts hK hNw hA hX0 hbl hbA htw hzs hstr hnc hml hL hi hcl hsl hI hP hD hS hl c0 hg kk
  · by_cases hg : ix (mx_n T) (xs (i + 1)) ∧ ix (mx_n T) (xs (i + 2))
    · obtain ⟨⟨x0, hx0, ex⟩, y0, hy0, ey⟩ := hg
      by_cases hm : mx_m F < 40
      · exact lw_3a1 hst hx hb hown hts hK hNw hA hX0 hbl hbA htw hzs hstr hnc hml hL hi hcl hsl hI hP hD hS hl c0 x0 y0 hx0 hy0 ex ey hm kk
      · exact lw_3b1 hst hx hb hown hts hK hNw hA hX0 hbl hbA htw hzs hstr hnc hml hL hi hcl hsl hI hP hD hS hl c0 x0 y0 hx0 hy0 ex ey hm kk
    · exact lw_3c1 hst hx hb hown hts hK hNw hA hX0 hbl hbA htw hzs hstr hnc hml hL hi hcl hsl hI hP hD hS hl c0 hg kk
