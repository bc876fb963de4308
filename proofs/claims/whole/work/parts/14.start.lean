/-! the start: what the Statement gives at the law's entry -/
def lvs : List Cond := flatC (Jvm.Cond.and given_1 narrow_1)
def stm (o i : Nat) : Term := .string (cn o) i
theorem sx0 : lvs[364]? = some (.exactly (stm 5 74) "java/lang/String") ∧ lvs[365]? = some (.eq (.field (stm 5 74) "java/lang/String" "coder" "B") (.int 0)) ∧ lvs[366]? = some (.arrayOf (.field (stm 5 74) "java/lang/String" "value" "[B") .byte) ∧ lvs[367]? = some (.eq (.length (.field (stm 5 74) "java/lang/String" "value" "[B")) (.int (Int32.ofNat ([sln 0].getD 0 0)))) ∧ ∀ k : Nat, k < [sln 0].getD 0 0 → lvs[368 + k]? = some (.eq (.elem (.field (stm 5 74) "java/lang/String" "value" "[B") (.int (Int32.ofNat k))) (.int (([strI.getD 0 []].getD 0 []).getD k 0))) := by decide +kernel
theorem sx1 : lvs[589]? = some (.exactly (stm 12 274) "java/lang/String") ∧ lvs[590]? = some (.eq (.field (stm 12 274) "java/lang/String" "coder" "B") (.int 0)) ∧ lvs[591]? = some (.arrayOf (.field (stm 12 274) "java/lang/String" "value" "[B") .byte) ∧ lvs[592]? = some (.eq (.length (.field (stm 12 274) "java/lang/String" "value" "[B")) (.int (Int32.ofNat ([sln 1].getD 0 0)))) ∧ ∀ k : Nat, k < [sln 1].getD 0 0 → lvs[593 + k]? = some (.eq (.elem (.field (stm 12 274) "java/lang/String" "value" "[B") (.int (Int32.ofNat k))) (.int (([strI.getD 1 []].getD 0 []).getD k 0))) := by decide +kernel
theorem sx2 : lvs[596]? = some (.exactly (stm 12 280) "java/lang/String") ∧ lvs[597]? = some (.eq (.field (stm 12 280) "java/lang/String" "coder" "B") (.int 0)) ∧ lvs[598]? = some (.arrayOf (.field (stm 12 280) "java/lang/String" "value" "[B") .byte) ∧ lvs[599]? = some (.eq (.length (.field (stm 12 280) "java/lang/String" "value" "[B")) (.int (Int32.ofNat ([sln 2].getD 0 0)))) ∧ ∀ k : Nat, k < [sln 2].getD 0 0 → lvs[600 + k]? = some (.eq (.elem (.field (stm 12 280) "java/lang/String" "value" "[B") (.int (Int32.ofNat k))) (.int (([strI.getD 2 []].getD 0 []).getD k 0))) := by decide +kernel
theorem sx3 : lvs[604]? = some (.exactly (stm 12 282) "java/lang/String") ∧ lvs[605]? = some (.eq (.field (stm 12 282) "java/lang/String" "coder" "B") (.int 0)) ∧ lvs[606]? = some (.arrayOf (.field (stm 12 282) "java/lang/String" "value" "[B") .byte) ∧ lvs[607]? = some (.eq (.length (.field (stm 12 282) "java/lang/String" "value" "[B")) (.int (Int32.ofNat ([sln 3].getD 0 0)))) ∧ ∀ k : Nat, k < [sln 3].getD 0 0 → lvs[608 + k]? = some (.eq (.elem (.field (stm 12 282) "java/lang/String" "value" "[B") (.int (Int32.ofNat k))) (.int (([strI.getD 3 []].getD 0 []).getD k 0))) := by decide +kernel
theorem sx4 : lvs[614]? = some (.exactly (stm 12 284) "java/lang/String") ∧ lvs[615]? = some (.eq (.field (stm 12 284) "java/lang/String" "coder" "B") (.int 0)) ∧ lvs[616]? = some (.arrayOf (.field (stm 12 284) "java/lang/String" "value" "[B") .byte) ∧ lvs[617]? = some (.eq (.length (.field (stm 12 284) "java/lang/String" "value" "[B")) (.int (Int32.ofNat ([sln 4].getD 0 0)))) ∧ ∀ k : Nat, k < [sln 4].getD 0 0 → lvs[618 + k]? = some (.eq (.elem (.field (stm 12 284) "java/lang/String" "value" "[B") (.int (Int32.ofNat k))) (.int (([strI.getD 4 []].getD 0 []).getD k 0))) := by decide +kernel
theorem sx5 : lvs[624]? = some (.exactly (stm 12 286) "java/lang/String") ∧ lvs[625]? = some (.eq (.field (stm 12 286) "java/lang/String" "coder" "B") (.int 0)) ∧ lvs[626]? = some (.arrayOf (.field (stm 12 286) "java/lang/String" "value" "[B") .byte) ∧ lvs[627]? = some (.eq (.length (.field (stm 12 286) "java/lang/String" "value" "[B")) (.int (Int32.ofNat ([sln 5].getD 0 0)))) ∧ ∀ k : Nat, k < [sln 5].getD 0 0 → lvs[628 + k]? = some (.eq (.elem (.field (stm 12 286) "java/lang/String" "value" "[B") (.int (Int32.ofNat k))) (.int (([strI.getD 5 []].getD 0 []).getD k 0))) := by decide +kernel
theorem sx6 : lvs[632]? = some (.exactly (stm 12 288) "java/lang/String") ∧ lvs[633]? = some (.eq (.field (stm 12 288) "java/lang/String" "coder" "B") (.int 0)) ∧ lvs[634]? = some (.arrayOf (.field (stm 12 288) "java/lang/String" "value" "[B") .byte) ∧ lvs[635]? = some (.eq (.length (.field (stm 12 288) "java/lang/String" "value" "[B")) (.int (Int32.ofNat ([sln 6].getD 0 0)))) ∧ ∀ k : Nat, k < [sln 6].getD 0 0 → lvs[636 + k]? = some (.eq (.elem (.field (stm 12 288) "java/lang/String" "value" "[B") (.int (Int32.ofNat k))) (.int (([strI.getD 6 []].getD 0 []).getD k 0))) := by decide +kernel
theorem sx7 : lvs[642]? = some (.exactly (stm 12 290) "java/lang/String") ∧ lvs[643]? = some (.eq (.field (stm 12 290) "java/lang/String" "coder" "B") (.int 0)) ∧ lvs[644]? = some (.arrayOf (.field (stm 12 290) "java/lang/String" "value" "[B") .byte) ∧ lvs[645]? = some (.eq (.length (.field (stm 12 290) "java/lang/String" "value" "[B")) (.int (Int32.ofNat ([sln 7].getD 0 0)))) ∧ ∀ k : Nat, k < [sln 7].getD 0 0 → lvs[646 + k]? = some (.eq (.elem (.field (stm 12 290) "java/lang/String" "value" "[B") (.int (Int32.ofNat k))) (.int (([strI.getD 7 []].getD 0 []).getD k 0))) := by decide +kernel
theorem sx8 : lvs[649]? = some (.exactly (stm 12 292) "java/lang/String") ∧ lvs[650]? = some (.eq (.field (stm 12 292) "java/lang/String" "coder" "B") (.int 0)) ∧ lvs[651]? = some (.arrayOf (.field (stm 12 292) "java/lang/String" "value" "[B") .byte) ∧ lvs[652]? = some (.eq (.length (.field (stm 12 292) "java/lang/String" "value" "[B")) (.int (Int32.ofNat ([sln 8].getD 0 0)))) ∧ ∀ k : Nat, k < [sln 8].getD 0 0 → lvs[653 + k]? = some (.eq (.elem (.field (stm 12 292) "java/lang/String" "value" "[B") (.int (Int32.ofNat k))) (.int (([strI.getD 8 []].getD 0 []).getD k 0))) := by decide +kernel
theorem sx9 : lvs[657]? = some (.exactly (stm 12 294) "java/lang/String") ∧ lvs[658]? = some (.eq (.field (stm 12 294) "java/lang/String" "coder" "B") (.int 0)) ∧ lvs[659]? = some (.arrayOf (.field (stm 12 294) "java/lang/String" "value" "[B") .byte) ∧ lvs[660]? = some (.eq (.length (.field (stm 12 294) "java/lang/String" "value" "[B")) (.int (Int32.ofNat ([sln 9].getD 0 0)))) ∧ ∀ k : Nat, k < [sln 9].getD 0 0 → lvs[661 + k]? = some (.eq (.elem (.field (stm 12 294) "java/lang/String" "value" "[B") (.int (Int32.ofNat k))) (.int (([strI.getD 9 []].getD 0 []).getD k 0))) := by decide +kernel
theorem sx10 : lvs[666]? = some (.exactly (stm 12 296) "java/lang/String") ∧ lvs[667]? = some (.eq (.field (stm 12 296) "java/lang/String" "coder" "B") (.int 0)) ∧ lvs[668]? = some (.arrayOf (.field (stm 12 296) "java/lang/String" "value" "[B") .byte) ∧ lvs[669]? = some (.eq (.length (.field (stm 12 296) "java/lang/String" "value" "[B")) (.int (Int32.ofNat ([sln 10].getD 0 0)))) ∧ ∀ k : Nat, k < [sln 10].getD 0 0 → lvs[670 + k]? = some (.eq (.elem (.field (stm 12 296) "java/lang/String" "value" "[B") (.int (Int32.ofNat k))) (.int (([strI.getD 10 []].getD 0 []).getD k 0))) := by decide +kernel
theorem sx11 : lvs[674]? = some (.exactly (stm 12 298) "java/lang/String") ∧ lvs[675]? = some (.eq (.field (stm 12 298) "java/lang/String" "coder" "B") (.int 0)) ∧ lvs[676]? = some (.arrayOf (.field (stm 12 298) "java/lang/String" "value" "[B") .byte) ∧ lvs[677]? = some (.eq (.length (.field (stm 12 298) "java/lang/String" "value" "[B")) (.int (Int32.ofNat ([sln 11].getD 0 0)))) ∧ ∀ k : Nat, k < [sln 11].getD 0 0 → lvs[678 + k]? = some (.eq (.elem (.field (stm 12 298) "java/lang/String" "value" "[B") (.int (Int32.ofNat k))) (.int (([strI.getD 11 []].getD 0 []).getD k 0))) := by decide +kernel
theorem sx12 : lvs[682]? = some (.exactly (stm 12 300) "java/lang/String") ∧ lvs[683]? = some (.eq (.field (stm 12 300) "java/lang/String" "coder" "B") (.int 0)) ∧ lvs[684]? = some (.arrayOf (.field (stm 12 300) "java/lang/String" "value" "[B") .byte) ∧ lvs[685]? = some (.eq (.length (.field (stm 12 300) "java/lang/String" "value" "[B")) (.int (Int32.ofNat ([sln 12].getD 0 0)))) ∧ ∀ k : Nat, k < [sln 12].getD 0 0 → lvs[686 + k]? = some (.eq (.elem (.field (stm 12 300) "java/lang/String" "value" "[B") (.int (Int32.ofNat k))) (.int (([strI.getD 12 []].getD 0 []).getD k 0))) := by decide +kernel
theorem sx13 : lvs[565]? = some (.exactly (stm 12 310) "java/lang/String") ∧ lvs[566]? = some (.eq (.field (stm 12 310) "java/lang/String" "coder" "B") (.int 0)) ∧ lvs[567]? = some (.arrayOf (.field (stm 12 310) "java/lang/String" "value" "[B") .byte) ∧ lvs[568]? = some (.eq (.length (.field (stm 12 310) "java/lang/String" "value" "[B")) (.int (Int32.ofNat ([sln 13].getD 0 0)))) ∧ ∀ k : Nat, k < [sln 13].getD 0 0 → lvs[569 + k]? = some (.eq (.elem (.field (stm 12 310) "java/lang/String" "value" "[B") (.int (Int32.ofNat k))) (.int (([strI.getD 13 []].getD 0 []).getD k 0))) := by decide +kernel
theorem sx14 : lvs[573]? = some (.exactly (stm 12 312) "java/lang/String") ∧ lvs[574]? = some (.eq (.field (stm 12 312) "java/lang/String" "coder" "B") (.int 0)) ∧ lvs[575]? = some (.arrayOf (.field (stm 12 312) "java/lang/String" "value" "[B") .byte) ∧ lvs[576]? = some (.eq (.length (.field (stm 12 312) "java/lang/String" "value" "[B")) (.int (Int32.ofNat ([sln 14].getD 0 0)))) ∧ ∀ k : Nat, k < [sln 14].getD 0 0 → lvs[577 + k]? = some (.eq (.elem (.field (stm 12 312) "java/lang/String" "value" "[B") (.int (Int32.ofNat k))) (.int (([strI.getD 14 []].getD 0 []).getD k 0))) := by decide +kernel
theorem sx15 : lvs[512]? = some (.exactly (stm 12 317) "java/lang/String") ∧ lvs[513]? = some (.eq (.field (stm 12 317) "java/lang/String" "coder" "B") (.int 0)) ∧ lvs[514]? = some (.arrayOf (.field (stm 12 317) "java/lang/String" "value" "[B") .byte) ∧ lvs[515]? = some (.eq (.length (.field (stm 12 317) "java/lang/String" "value" "[B")) (.int (Int32.ofNat ([sln 15].getD 0 0)))) ∧ ∀ k : Nat, k < [sln 15].getD 0 0 → lvs[516 + k]? = some (.eq (.elem (.field (stm 12 317) "java/lang/String" "value" "[B") (.int (Int32.ofNat k))) (.int (([strI.getD 15 []].getD 0 []).getD k 0))) := by decide +kernel
theorem sx16 : lvs[518]? = some (.exactly (stm 12 319) "java/lang/String") ∧ lvs[519]? = some (.eq (.field (stm 12 319) "java/lang/String" "coder" "B") (.int 0)) ∧ lvs[520]? = some (.arrayOf (.field (stm 12 319) "java/lang/String" "value" "[B") .byte) ∧ lvs[521]? = some (.eq (.length (.field (stm 12 319) "java/lang/String" "value" "[B")) (.int (Int32.ofNat ([sln 16].getD 0 0)))) ∧ ∀ k : Nat, k < [sln 16].getD 0 0 → lvs[522 + k]? = some (.eq (.elem (.field (stm 12 319) "java/lang/String" "value" "[B") (.int (Int32.ofNat k))) (.int (([strI.getD 16 []].getD 0 []).getD k 0))) := by decide +kernel
theorem sx17 : lvs[526]? = some (.exactly (stm 12 321) "java/lang/String") ∧ lvs[527]? = some (.eq (.field (stm 12 321) "java/lang/String" "coder" "B") (.int 0)) ∧ lvs[528]? = some (.arrayOf (.field (stm 12 321) "java/lang/String" "value" "[B") .byte) ∧ lvs[529]? = some (.eq (.length (.field (stm 12 321) "java/lang/String" "value" "[B")) (.int (Int32.ofNat ([sln 17].getD 0 0)))) ∧ ∀ k : Nat, k < [sln 17].getD 0 0 → lvs[530 + k]? = some (.eq (.elem (.field (stm 12 321) "java/lang/String" "value" "[B") (.int (Int32.ofNat k))) (.int (([strI.getD 17 []].getD 0 []).getD k 0))) := by decide +kernel
theorem sx18 : lvs[533]? = some (.exactly (stm 12 323) "java/lang/String") ∧ lvs[534]? = some (.eq (.field (stm 12 323) "java/lang/String" "coder" "B") (.int 0)) ∧ lvs[535]? = some (.arrayOf (.field (stm 12 323) "java/lang/String" "value" "[B") .byte) ∧ lvs[536]? = some (.eq (.length (.field (stm 12 323) "java/lang/String" "value" "[B")) (.int (Int32.ofNat ([sln 18].getD 0 0)))) ∧ ∀ k : Nat, k < [sln 18].getD 0 0 → lvs[537 + k]? = some (.eq (.elem (.field (stm 12 323) "java/lang/String" "value" "[B") (.int (Int32.ofNat k))) (.int (([strI.getD 18 []].getD 0 []).getD k 0))) := by decide +kernel
theorem sx19 : lvs[540]? = some (.exactly (stm 12 324) "java/lang/String") ∧ lvs[541]? = some (.eq (.field (stm 12 324) "java/lang/String" "coder" "B") (.int 0)) ∧ lvs[542]? = some (.arrayOf (.field (stm 12 324) "java/lang/String" "value" "[B") .byte) ∧ lvs[543]? = some (.eq (.length (.field (stm 12 324) "java/lang/String" "value" "[B")) (.int (Int32.ofNat ([sln 19].getD 0 0)))) ∧ ∀ k : Nat, k < [sln 19].getD 0 0 → lvs[544 + k]? = some (.eq (.elem (.field (stm 12 324) "java/lang/String" "value" "[B") (.int (Int32.ofNat k))) (.int (([strI.getD 19 []].getD 0 []).getD k 0))) := by decide +kernel
theorem sx20 : lvs[548]? = some (.exactly (stm 12 326) "java/lang/String") ∧ lvs[549]? = some (.eq (.field (stm 12 326) "java/lang/String" "coder" "B") (.int 0)) ∧ lvs[550]? = some (.arrayOf (.field (stm 12 326) "java/lang/String" "value" "[B") .byte) ∧ lvs[551]? = some (.eq (.length (.field (stm 12 326) "java/lang/String" "value" "[B")) (.int (Int32.ofNat ([sln 20].getD 0 0)))) ∧ ∀ k : Nat, k < [sln 20].getD 0 0 → lvs[552 + k]? = some (.eq (.elem (.field (stm 12 326) "java/lang/String" "value" "[B") (.int (Int32.ofNat k))) (.int (([strI.getD 20 []].getD 0 []).getD k 0))) := by decide +kernel
theorem sx21 : lvs[557]? = some (.exactly (stm 12 328) "java/lang/String") ∧ lvs[558]? = some (.eq (.field (stm 12 328) "java/lang/String" "coder" "B") (.int 0)) ∧ lvs[559]? = some (.arrayOf (.field (stm 12 328) "java/lang/String" "value" "[B") .byte) ∧ lvs[560]? = some (.eq (.length (.field (stm 12 328) "java/lang/String" "value" "[B")) (.int (Int32.ofNat ([sln 21].getD 0 0)))) ∧ ∀ k : Nat, k < [sln 21].getD 0 0 → lvs[561 + k]? = some (.eq (.elem (.field (stm 12 328) "java/lang/String" "value" "[B") (.int (Int32.ofNat k))) (.int (([strI.getD 21 []].getD 0 []).getD k 0))) := by decide +kernel
theorem sx22 : lvs[691]? = some (.exactly (stm 12 344) "java/lang/String") ∧ lvs[692]? = some (.eq (.field (stm 12 344) "java/lang/String" "coder" "B") (.int 0)) ∧ lvs[693]? = some (.arrayOf (.field (stm 12 344) "java/lang/String" "value" "[B") .byte) ∧ lvs[694]? = some (.eq (.length (.field (stm 12 344) "java/lang/String" "value" "[B")) (.int (Int32.ofNat ([sln 22].getD 0 0)))) ∧ ∀ k : Nat, k < [sln 22].getD 0 0 → lvs[695 + k]? = some (.eq (.elem (.field (stm 12 344) "java/lang/String" "value" "[B") (.int (Int32.ofNat k))) (.int (([strI.getD 22 []].getD 0 []).getD k 0))) := by decide +kernel
theorem sx23 : lvs[582]? = some (.exactly (stm 12 352) "java/lang/String") ∧ lvs[583]? = some (.eq (.field (stm 12 352) "java/lang/String" "coder" "B") (.int 0)) ∧ lvs[584]? = some (.arrayOf (.field (stm 12 352) "java/lang/String" "value" "[B") .byte) ∧ lvs[585]? = some (.eq (.length (.field (stm 12 352) "java/lang/String" "value" "[B")) (.int (Int32.ofNat ([sln 23].getD 0 0)))) ∧ ∀ k : Nat, k < [sln 23].getD 0 0 → lvs[586 + k]? = some (.eq (.elem (.field (stm 12 352) "java/lang/String" "value" "[B") (.int (Int32.ofNat k))) (.int (([strI.getD 23 []].getD 0 []).getD k 0))) := by decide +kernel
theorem sx24 : lvs[700]? = some (.exactly (stm 12 357) "java/lang/String") ∧ lvs[701]? = some (.eq (.field (stm 12 357) "java/lang/String" "coder" "B") (.int 0)) ∧ lvs[702]? = some (.arrayOf (.field (stm 12 357) "java/lang/String" "value" "[B") .byte) ∧ lvs[703]? = some (.eq (.length (.field (stm 12 357) "java/lang/String" "value" "[B")) (.int (Int32.ofNat ([sln 24].getD 0 0)))) ∧ ∀ k : Nat, k < [sln 24].getD 0 0 → lvs[704 + k]? = some (.eq (.elem (.field (stm 12 357) "java/lang/String" "value" "[B") (.int (Int32.ofNat k))) (.int (([strI.getD 24 []].getD 0 []).getD k 0))) := by decide +kernel
theorem wF : Cond.laysStatic "jdk/internal/util/Preconditions" "SIOOBE_FORMATTER" "Ljava/util/function/BiFunction;" ∈ lw_tbl := List.mem_append_right _ (List.mem_of_getElem? (i := 904) (by decide +kernel))
theorem wP : Cond.initialized "jdk/internal/util/Preconditions" ∈ lw_tbl := List.mem_append_right _ (List.mem_of_getElem? (i := 27) (by decide +kernel))
theorem zF : Cond.isRef (.static "jdk/internal/util/Preconditions" "SIOOBE_FORMATTER" "Ljava/util/function/BiFunction;") ∈ lvs := List.mem_of_getElem? (i := 7) (by decide +kernel)
theorem wI : Cond.instantiable "java/lang/String" 4 ∈ tblG := tblG_in (i := 992) (by decide +kernel) (by decide +kernel)
theorem str_sz {args : Array Value} {s : State} {t : Term} {q : Nat} (hin : (Cond.instantiable "java/lang/String" 4).before args s = true) (hx : (Cond.exactly t "java/lang/String").before args s = true) (he : t.eval args s none [] s = some (.ref q)) : ∃ cell : Cell, s.heap[q]? = some cell ∧ cell.slots.size = 4 := by
  obtain ⟨a, c, cell, k, x1, x2, x3, x4, -, -, x7⟩ := Cond.exactly_spec (args := args) (first := s) (o := none) (s := s) (idx := []) hx
  obtain ⟨c', k', n1, n2, n3, -, -, n6⟩ := Cond.instantiable_spec hin
  obtain rfl := Option.some.inj (n1.symm.trans x2)
  obtain rfl := Option.some.inj (n2.symm.trans x4)
  have ea : a = q := by
    have := Option.some.inj (x1.symm.trans he)
    injection this
  exact ⟨cell, by rw [← ea]; exact x3, (x7 n3).trans n6⟩
theorem str_of {args : Array Value} {s : State} (hs : ∀ w ∈ lvs, w.before args s = true) (hin : (Cond.instantiable "java/lang/String" 4).before args s = true) {j o i e co a ln el : Nat} (h : lvs[e]? = some (.exactly (stm o i) "java/lang/String") ∧ lvs[co]? = some (.eq (.field (stm o i) "java/lang/String" "coder" "B") (.int 0)) ∧ lvs[a]? = some (.arrayOf (.field (stm o i) "java/lang/String" "value" "[B") .byte) ∧ lvs[ln]? = some (.eq (.length (.field (stm o i) "java/lang/String" "value" "[B")) (.int (Int32.ofNat ([sln j].getD 0 0)))) ∧ ∀ k : Nat, k < [sln j].getD 0 0 → lvs[el + k]? = some (.eq (.elem (.field (stm o i) "java/lang/String" "value" "[B") (.int (Int32.ofNat k))) (.int (([strI.getD j []].getD 0 []).getD k 0)))) (hlt : sln j < 2 ^ 31) :
    ∃ q : Nat × Nat, vk_S 1 [sln j] [strI.getD j []] (fun _ => q.1) (fun _ => q.2) (fun q => s.heap.size ≤ q) s s.heap ∧ (stm o i).eval args s none [] s = some (.ref q.1) ∧ ∃ cell : Cell, s.heap[q.1]? = some cell ∧ cell.slots.size = 4 := by
  obtain ⟨h1, h2, h3, h4, h5⟩ := h
  have z : ∀ k : Nat, k < 1 → k = 0 := fun k hk => by omega
  obtain ⟨adK, adV, hv, he⟩ := vk_Sof (args := args) (s := s) (N := 1) (tm := fun _ => stm o i) (len := [sln j]) (byt := [strI.getD j []]) (A := fun q => s.heap.size ≤ q) (fun k hk => by obtain rfl := z k hk; exact hlt) (fun _ _ => hs _ (List.mem_of_getElem? h1)) (fun _ _ => hs _ (List.mem_of_getElem? h2)) (fun _ _ => hs _ (List.mem_of_getElem? h3)) (fun k hk => by obtain rfl := z k hk; exact hs _ (List.mem_of_getElem? h4)) (fun k hk c hc => by obtain rfl := z k hk; exact hs _ (List.mem_of_getElem? (h5 c hc))) (fun x y hx hy n => absurd ((z x hx).trans (z y hy).symm) n) (fun a ha q => by omega)
  refine ⟨(adK 0, adV 0), ⟨fun k hk => ?_, fun x y hx hy _ => (z x hx).trans (z y hy).symm⟩, he 0 (by omega), str_sz hin (hs _ (List.mem_of_getElem? h1)) (he 0 (by omega))⟩
  obtain rfl := z k hk
  exact hv.1 0 hk
theorem nc0 : Cond.not (.castable "java/lang/IllegalArgumentException" "java/util/NoSuchElementException") ∈ lvs := List.mem_of_getElem? (i := 249) (by decide +kernel)
theorem nc1 : Cond.not (.castable "java/lang/IllegalStateException" "java/util/NoSuchElementException") ∈ lvs := List.mem_of_getElem? (i := 253) (by decide +kernel)
theorem nc2 : Cond.not (.castable "java/lang/IndexOutOfBoundsException" "java/util/NoSuchElementException") ∈ lvs := List.mem_of_getElem? (i := 254) (by decide +kernel)
theorem nc3 : Cond.not (.castable "java/lang/IndexOutOfBoundsException" "java/lang/IllegalStateException") ∈ lvs := List.mem_of_getElem? (i := 273) (by decide +kernel)
theorem nc4 : Cond.not (.castable "java/lang/IllegalArgumentException" "java/lang/IllegalStateException") ∈ lvs := List.mem_of_getElem? (i := 268) (by decide +kernel)
theorem zU : Cond.isRef (.static Bundle.tN "UNASSIGNED_STACK" Bundle.steD) ∈ lvs := List.mem_of_getElem? (i := 4) (by decide +kernel)
theorem zS : Cond.isRef (.static Bundle.tN "SUPPRESSED_SENTINEL" Bundle.listD) ∈ lvs := List.mem_of_getElem? (i := 5) (by decide +kernel)
theorem zC : Cond.eq (.static "java/lang/String" "COMPACT_STRINGS" "Z") (.int 1) ∈ lvs := List.mem_of_getElem? (i := 6) (by decide +kernel)
theorem wU : Cond.laysStatic Bundle.tN "UNASSIGNED_STACK" Bundle.steD ∈ lw_tbl := List.mem_append_right _ (List.mem_of_getElem? (i := 639) (by decide +kernel))
theorem wS : Cond.laysStatic Bundle.tN "SUPPRESSED_SENTINEL" Bundle.listD ∈ lw_tbl := List.mem_append_right _ (List.mem_of_getElem? (i := 641) (by decide +kernel))
theorem wC : Cond.laysStatic "java/lang/String" "COMPACT_STRINGS" "Z" ∈ lw_tbl := List.mem_append_right _ (List.mem_of_getElem? (i := 822) (by decide +kernel))
theorem wT : Cond.initialized Bundle.tN ∈ lw_tbl := List.mem_append_right _ (List.mem_of_getElem? (i := 14) (by decide +kernel))
theorem wJ : Cond.initialized "java/lang/String" ∈ lw_tbl := List.mem_append_right _ (List.mem_of_getElem? (i := 23) (by decide +kernel))
theorem sr0 : Cond.stringRef (cn 5) 74 "oak   farm  bridgeschoolpond  churchinn   gate  stone mill  well  cross on    until past  far   see   over  loose back  left  right or    not   " ∈ lw_tbl := List.mem_append_right _ (List.mem_of_getElem? (i := 1252) (by decide +kernel))
theorem sr1 : Cond.stringRef (cn 12) 274 "oak" ∈ lw_tbl := List.mem_append_right _ (List.mem_of_getElem? (i := 2137) (by decide +kernel))
theorem sr2 : Cond.stringRef (cn 12) 280 "farm" ∈ lw_tbl := List.mem_append_right _ (List.mem_of_getElem? (i := 2138) (by decide +kernel))
theorem sr3 : Cond.stringRef (cn 12) 282 "bridge" ∈ lw_tbl := List.mem_append_right _ (List.mem_of_getElem? (i := 2139) (by decide +kernel))
theorem sr4 : Cond.stringRef (cn 12) 284 "school" ∈ lw_tbl := List.mem_append_right _ (List.mem_of_getElem? (i := 2140) (by decide +kernel))
theorem sr5 : Cond.stringRef (cn 12) 286 "pond" ∈ lw_tbl := List.mem_append_right _ (List.mem_of_getElem? (i := 2141) (by decide +kernel))
theorem sr6 : Cond.stringRef (cn 12) 288 "church" ∈ lw_tbl := List.mem_append_right _ (List.mem_of_getElem? (i := 2142) (by decide +kernel))
theorem sr7 : Cond.stringRef (cn 12) 290 "inn" ∈ lw_tbl := List.mem_append_right _ (List.mem_of_getElem? (i := 2143) (by decide +kernel))
theorem sr8 : Cond.stringRef (cn 12) 292 "gate" ∈ lw_tbl := List.mem_append_right _ (List.mem_of_getElem? (i := 2144) (by decide +kernel))
theorem sr9 : Cond.stringRef (cn 12) 294 "stone" ∈ lw_tbl := List.mem_append_right _ (List.mem_of_getElem? (i := 2145) (by decide +kernel))
theorem sr10 : Cond.stringRef (cn 12) 296 "mill" ∈ lw_tbl := List.mem_append_right _ (List.mem_of_getElem? (i := 2146) (by decide +kernel))
theorem sr11 : Cond.stringRef (cn 12) 298 "well" ∈ lw_tbl := List.mem_append_right _ (List.mem_of_getElem? (i := 2147) (by decide +kernel))
theorem sr12 : Cond.stringRef (cn 12) 300 "cross" ∈ lw_tbl := List.mem_append_right _ (List.mem_of_getElem? (i := 2148) (by decide +kernel))
theorem sr13 : Cond.stringRef (cn 12) 310 "left" ∈ lw_tbl := List.mem_append_right _ (List.mem_of_getElem? (i := 2110) (by decide +kernel))
theorem sr14 : Cond.stringRef (cn 12) 312 "right" ∈ lw_tbl := List.mem_append_right _ (List.mem_of_getElem? (i := 2111) (by decide +kernel))
theorem sr15 : Cond.stringRef (cn 12) 317 "on" ∈ lw_tbl := List.mem_append_right _ (List.mem_of_getElem? (i := 2093) (by decide +kernel))
theorem sr16 : Cond.stringRef (cn 12) 319 "past" ∈ lw_tbl := List.mem_append_right _ (List.mem_of_getElem? (i := 2100) (by decide +kernel))
theorem sr17 : Cond.stringRef (cn 12) 321 "far" ∈ lw_tbl := List.mem_append_right _ (List.mem_of_getElem? (i := 2101) (by decide +kernel))
theorem sr18 : Cond.stringRef (cn 12) 323 "see" ∈ lw_tbl := List.mem_append_right _ (List.mem_of_getElem? (i := 2102) (by decide +kernel))
theorem sr19 : Cond.stringRef (cn 12) 324 "over" ∈ lw_tbl := List.mem_append_right _ (List.mem_of_getElem? (i := 2103) (by decide +kernel))
theorem sr20 : Cond.stringRef (cn 12) 326 "loose" ∈ lw_tbl := List.mem_append_right _ (List.mem_of_getElem? (i := 2104) (by decide +kernel))
theorem sr21 : Cond.stringRef (cn 12) 328 "back" ∈ lw_tbl := List.mem_append_right _ (List.mem_of_getElem? (i := 2105) (by decide +kernel))
theorem sr22 : Cond.stringRef (cn 12) 344 "until" ∈ lw_tbl := List.mem_append_right _ (List.mem_of_getElem? (i := 2156) (by decide +kernel))
theorem sr23 : Cond.stringRef (cn 12) 352 "not" ∈ lw_tbl := List.mem_append_right _ (List.mem_of_getElem? (i := 2128) (by decide +kernel))
theorem sr24 : Cond.stringRef (cn 12) 357 "or" ∈ lw_tbl := List.mem_append_right _ (List.mem_of_getElem? (i := 2157) (by decide +kernel))
theorem it0 : Cond.instantiable RX0 11 ∈ tblG := tblG_in (i := 169) (by decide +kernel) (by decide +kernel)
theorem it1 : Cond.instantiable RX1 11 ∈ tblG := tblG_in (i := 405) (by decide +kernel) (by decide +kernel)
theorem it2 : Cond.instantiable RX2 8 ∈ tblG := tblG_in (i := 131) (by decide +kernel) (by decide +kernel)
theorem it3 : Cond.instantiable RX3 17 ∈ tblG := tblG_in (i := 43) (by decide +kernel) (by decide +kernel)
theorem it4 : Cond.instantiable RX4 8 ∈ tblG := tblG_in (i := 372) (by decide +kernel) (by decide +kernel)
theorem it5 : Cond.instantiable RX5 14 ∈ tblG := tblG_in (i := 449) (by decide +kernel) (by decide +kernel)
theorem it6 : Cond.instantiable RX6 1 ∈ tblG := tblG_in (i := 283) (by decide +kernel) (by decide +kernel)
theorem it7 : Cond.instantiable RX7 11 ∈ tblG := tblG_in (i := 294) (by decide +kernel) (by decide +kernel)
theorem it8 : Cond.instantiable RX8 4 ∈ tblG := tblG_in (i := 508) (by decide +kernel) (by decide +kernel)
theorem it9 : Cond.instantiable RX9 10 ∈ tblG := tblG_in (i := 277) (by decide +kernel) (by decide +kernel)
theorem it10 : Cond.instantiable RX10 12 ∈ tblG := tblG_in (i := 223) (by decide +kernel) (by decide +kernel)
theorem it11 : Cond.instantiable RX11 12 ∈ tblG := tblG_in (i := 35) (by decide +kernel) (by decide +kernel)
theorem it12 : Cond.instantiable RX12 40 ∈ tblG := tblG_in (i := 1754) (by decide +kernel) (by decide +kernel)
theorem ao4 : Cond.arrayOver (.object RX8) ∈ exL := exL_in (i := 504) (by decide +kernel) rfl
theorem ao5 : Cond.arrayOver (.object RX3) ∈ exL := exL_in (i := 505) (by decide +kernel) rfl
theorem ao6 : Cond.arrayOver (.object RX2) ∈ exL := exL_in (i := 506) (by decide +kernel) rfl
theorem ao7 : Cond.arrayOver (.object RX0) ∈ exL := exL_in (i := 507) (by decide +kernel) rfl
theorem ao8 : Cond.arrayOver (.object RX6) ∈ exL := exL_in (i := 411) (by decide +kernel) rfl
theorem tblG_lw {w : Cond} (h : w ∈ tblG) : w ∈ lw_tbl := (List.mem_filter.mp h).1
theorem exL_lw {w : Cond} (h : w ∈ exL) : w ∈ lw_tbl := List.mem_append_right _ (List.mem_filter.mp h).1
theorem arr_of {args : Array Value} {s : State} {ty : FieldType} (hno : ∀ C, ty ≠ .object C) (h : (Cond.arrayClass ty).before args s = true) : ∃ c : ClassId, ArrOfT s c ty ∧ va_RA s c ty := by
  obtain ⟨c, k, comp, h1, h2, h3⟩ := Cond.arrayClass_spec h
  refine ⟨c, fun n z => ⟨fun k h => (by cases h), k, h2, comp, h3⟩, ?_⟩
  cases ty with
  | object C => exact absurd rfl (hno C)
  | _ => exact h1
theorem arr_ofO {args : Array Value} {s : State} {C : String} (h : (Cond.arrayOver (.object C)).before args s = true) : ∃ c : ClassId, ArrOfT s c (.object C) ∧ va_RA s c (.object C) := by
  obtain ⟨comp, c, k, h1, h2, h3, h4, h5⟩ := Cond.arrayOver_spec h
  exact ⟨c, fun n z => ⟨fun k h => (by cases h), k, h3, comp, h4⟩, k, comp, h3, h4, h1, h5⟩
def roB (b L : Nat) (xs : Nat → Int32) : Nat → Option (Nat × (Nat → Int32)) := fun a => if a = b then some (L, xs) else none
set_option maxHeartbeats 4000000 in
theorem start_G {args : Array Value} {s : State} (hts : ∀ w ∈ lw_tbl, w.before args s = true) (hgv : (Jvm.Cond.and given_1 narrow_1).before args s = true) {b L : Nat} {xs : Nat → Int32} (hX : va_X b L xs s s.heap) (hb : b < s.heap.size) :
    ∃ (D : va_G) (ar : Nat → ClassId) (sa sv : Nat → Nat), Gw D ar (roB b L xs) sa sv s s.heap (fun q => s.heap.size ≤ q) := by
  have hs : ∀ w ∈ lvs, w.before args s = true := flat_of_before _ hgv
  have hG : ∀ w ∈ tblG, w.before args s = true := fun w h => hts w (tblG_lw h)
  have hA : ∀ a : Nat, a < s.heap.size → ¬ (fun q => s.heap.size ≤ q) a := fun a h q => by have q : s.heap.size ≤ a := q; omega
  have hcl : ∀ k : Nat, ∃ q : ClassId × (Nat → Nat), ∀ r : vw_C, clsL[k]? = some r → u_Kn s r.1 r.2.1 r.2.2 q.1 q.2 := by
    intro k
    rcases Nat.lt_or_ge k 13 with hk | hk
    · rcases (show k = 0 ∨ k = 1 ∨ k = 2 ∨ k = 3 ∨ k = 4 ∨ k = 5 ∨ k = 6 ∨ k = 7 ∨ k = 8 ∨ k = 9 ∨ k = 10 ∨ k = 11 ∨ k = 12 by omega) with rfl | rfl | rfl | rfl | rfl | rfl | rfl | rfl | rfl | rfl | rfl | rfl | rfl
      · obtain ⟨c, iS, hk⟩ := u_known (C := RX0) (T := TX0) (N := 11) (n := 11) hG inX0 (hG _ it0); exact ⟨(c, iS), fun r hr => by cases hr; exact hk⟩
      · obtain ⟨c, iS, hk⟩ := u_known (C := RX1) (T := TX1) (N := 11) (n := 11) hG inX1 (hG _ it1); exact ⟨(c, iS), fun r hr => by cases hr; exact hk⟩
      · obtain ⟨c, iS, hk⟩ := u_known (C := RX2) (T := TX2) (N := 8) (n := 8) hG inX2 (hG _ it2); exact ⟨(c, iS), fun r hr => by cases hr; exact hk⟩
      · obtain ⟨c, iS, hk⟩ := u_known (C := RX3) (T := TX3) (N := 17) (n := 17) hG inX3 (hG _ it3); exact ⟨(c, iS), fun r hr => by cases hr; exact hk⟩
      · obtain ⟨c, iS, hk⟩ := u_known (C := RX4) (T := TX4) (N := 8) (n := 8) hG inX4 (hG _ it4); exact ⟨(c, iS), fun r hr => by cases hr; exact hk⟩
      · obtain ⟨c, iS, hk⟩ := u_known (C := RX5) (T := TX5) (N := 14) (n := 14) hG inX5 (hG _ it5); exact ⟨(c, iS), fun r hr => by cases hr; exact hk⟩
      · obtain ⟨c, iS, hk⟩ := u_known (C := RX6) (T := TX6) (N := 1) (n := 1) hG inX6 (hG _ it6); exact ⟨(c, iS), fun r hr => by cases hr; exact hk⟩
      · obtain ⟨c, iS, hk⟩ := u_known (C := RX7) (T := TX7) (N := 11) (n := 11) hG inX7 (hG _ it7); exact ⟨(c, iS), fun r hr => by cases hr; exact hk⟩
      · obtain ⟨c, iS, hk⟩ := u_known (C := RX8) (T := TX8) (N := 4) (n := 4) hG inX8 (hG _ it8); exact ⟨(c, iS), fun r hr => by cases hr; exact hk⟩
      · obtain ⟨c, iS, hk⟩ := u_known (C := RX9) (T := TX9) (N := 10) (n := 10) hG inX9 (hG _ it9); exact ⟨(c, iS), fun r hr => by cases hr; exact hk⟩
      · obtain ⟨c, iS, hk⟩ := u_known (C := RX10) (T := TX10) (N := 12) (n := 12) hG inX10 (hG _ it10); exact ⟨(c, iS), fun r hr => by cases hr; exact hk⟩
      · obtain ⟨c, iS, hk⟩ := u_known (C := RX11) (T := TX11) (N := 12) (n := 12) hG inX11 (hG _ it11); exact ⟨(c, iS), fun r hr => by cases hr; exact hk⟩
      · obtain ⟨c, iS, hk⟩ := u_known (C := RX12) (T := TX12) (N := 40) (n := 40) hG inX12 (hG _ it12); exact ⟨(c, iS), fun r hr => by cases hr; exact hk⟩
    · exact ⟨(0, fun _ => 0), fun r hr => by rw [List.getElem?_eq_none (by simpa [clsL] using hk)] at hr; cases hr⟩
  obtain ⟨dd, hdd⟩ := Classical.axiomOfChoice hcl
  have har : ∀ t : Nat, ∃ c : ClassId, t ≤ 8 → ArrOfT s c (tyN t) ∧ va_RA s c (tyN t) := by
    intro t
    rcases Nat.lt_or_ge t 9 with ht | ht
    · rcases (show t = 0 ∨ t = 1 ∨ t = 2 ∨ t = 3 ∨ t = 4 ∨ t = 5 ∨ t = 6 ∨ t = 7 ∨ t = 8 by omega) with rfl | rfl | rfl | rfl | rfl | rfl | rfl | rfl | rfl
      · obtain ⟨c, hc⟩ := arr_of (ty := .int) (by intro C h; cases h) (hG _ arC0); exact ⟨c, fun _ => hc⟩
      · obtain ⟨c, hc⟩ := arr_of (ty := .long) (by intro C h; cases h) (hG _ arC1); exact ⟨c, fun _ => hc⟩
      · obtain ⟨c, hc⟩ := arr_of (ty := .boolean) (by intro C h; cases h) (hG _ arC2); exact ⟨c, fun _ => hc⟩
      · obtain ⟨c, hc⟩ := arr_of (ty := .byte) (by intro C h; cases h) (hG _ arC3); exact ⟨c, fun _ => hc⟩
      · obtain ⟨c, hc⟩ := arr_ofO (hts _ (exL_lw ao4)); exact ⟨c, fun _ => hc⟩
      · obtain ⟨c, hc⟩ := arr_ofO (hts _ (exL_lw ao5)); exact ⟨c, fun _ => hc⟩
      · obtain ⟨c, hc⟩ := arr_ofO (hts _ (exL_lw ao6)); exact ⟨c, fun _ => hc⟩
      · obtain ⟨c, hc⟩ := arr_ofO (hts _ (exL_lw ao7)); exact ⟨c, fun _ => hc⟩
      · obtain ⟨c, hc⟩ := arr_ofO (hts _ (exL_lw ao8)); exact ⟨c, fun _ => hc⟩
    · exact ⟨0, fun h => absurd h (by omega)⟩
  obtain ⟨ar, har⟩ := Classical.axiomOfChoice har
  have hst : ∀ j : Nat, ∃ q : Nat × Nat, j < 25 → (vk_S 1 [sln j] [strI.getD j []] (fun _ => q.1) (fun _ => q.2) (fun q => s.heap.size ≤ q) s s.heap ∧ ∃ cell : Cell, s.heap[q.1]? = some cell ∧ cell.slots.size = 4) ∧ ∀ (o i : Nat) (tx : String), strT[j]? = some (o, i, tx) → vk_R (cn o) i tx q.1 s := by
    intro j
    rcases Nat.lt_or_ge j 25 with hj | hj
    · rcases (show j = 0 ∨ j = 1 ∨ j = 2 ∨ j = 3 ∨ j = 4 ∨ j = 5 ∨ j = 6 ∨ j = 7 ∨ j = 8 ∨ j = 9 ∨ j = 10 ∨ j = 11 ∨ j = 12 ∨ j = 13 ∨ j = 14 ∨ j = 15 ∨ j = 16 ∨ j = 17 ∨ j = 18 ∨ j = 19 ∨ j = 20 ∨ j = 21 ∨ j = 22 ∨ j = 23 ∨ j = 24 by omega) with rfl | rfl | rfl | rfl | rfl | rfl | rfl | rfl | rfl | rfl | rfl | rfl | rfl | rfl | rfl | rfl | rfl | rfl | rfl | rfl | rfl | rfl | rfl | rfl | rfl
      · obtain ⟨q, h1, h2, h3⟩ := str_of hs (hG _ wI) sx0 (by decide +kernel); exact ⟨q, fun _ => ⟨⟨h1, h3⟩, fun o i tx h => by cases h; exact vk_R.of (hts _ sr0) h2⟩⟩
      · obtain ⟨q, h1, h2, h3⟩ := str_of hs (hG _ wI) sx1 (by decide +kernel); exact ⟨q, fun _ => ⟨⟨h1, h3⟩, fun o i tx h => by cases h; exact vk_R.of (hts _ sr1) h2⟩⟩
      · obtain ⟨q, h1, h2, h3⟩ := str_of hs (hG _ wI) sx2 (by decide +kernel); exact ⟨q, fun _ => ⟨⟨h1, h3⟩, fun o i tx h => by cases h; exact vk_R.of (hts _ sr2) h2⟩⟩
      · obtain ⟨q, h1, h2, h3⟩ := str_of hs (hG _ wI) sx3 (by decide +kernel); exact ⟨q, fun _ => ⟨⟨h1, h3⟩, fun o i tx h => by cases h; exact vk_R.of (hts _ sr3) h2⟩⟩
      · obtain ⟨q, h1, h2, h3⟩ := str_of hs (hG _ wI) sx4 (by decide +kernel); exact ⟨q, fun _ => ⟨⟨h1, h3⟩, fun o i tx h => by cases h; exact vk_R.of (hts _ sr4) h2⟩⟩
      · obtain ⟨q, h1, h2, h3⟩ := str_of hs (hG _ wI) sx5 (by decide +kernel); exact ⟨q, fun _ => ⟨⟨h1, h3⟩, fun o i tx h => by cases h; exact vk_R.of (hts _ sr5) h2⟩⟩
      · obtain ⟨q, h1, h2, h3⟩ := str_of hs (hG _ wI) sx6 (by decide +kernel); exact ⟨q, fun _ => ⟨⟨h1, h3⟩, fun o i tx h => by cases h; exact vk_R.of (hts _ sr6) h2⟩⟩
      · obtain ⟨q, h1, h2, h3⟩ := str_of hs (hG _ wI) sx7 (by decide +kernel); exact ⟨q, fun _ => ⟨⟨h1, h3⟩, fun o i tx h => by cases h; exact vk_R.of (hts _ sr7) h2⟩⟩
      · obtain ⟨q, h1, h2, h3⟩ := str_of hs (hG _ wI) sx8 (by decide +kernel); exact ⟨q, fun _ => ⟨⟨h1, h3⟩, fun o i tx h => by cases h; exact vk_R.of (hts _ sr8) h2⟩⟩
      · obtain ⟨q, h1, h2, h3⟩ := str_of hs (hG _ wI) sx9 (by decide +kernel); exact ⟨q, fun _ => ⟨⟨h1, h3⟩, fun o i tx h => by cases h; exact vk_R.of (hts _ sr9) h2⟩⟩
      · obtain ⟨q, h1, h2, h3⟩ := str_of hs (hG _ wI) sx10 (by decide +kernel); exact ⟨q, fun _ => ⟨⟨h1, h3⟩, fun o i tx h => by cases h; exact vk_R.of (hts _ sr10) h2⟩⟩
      · obtain ⟨q, h1, h2, h3⟩ := str_of hs (hG _ wI) sx11 (by decide +kernel); exact ⟨q, fun _ => ⟨⟨h1, h3⟩, fun o i tx h => by cases h; exact vk_R.of (hts _ sr11) h2⟩⟩
      · obtain ⟨q, h1, h2, h3⟩ := str_of hs (hG _ wI) sx12 (by decide +kernel); exact ⟨q, fun _ => ⟨⟨h1, h3⟩, fun o i tx h => by cases h; exact vk_R.of (hts _ sr12) h2⟩⟩
      · obtain ⟨q, h1, h2, h3⟩ := str_of hs (hG _ wI) sx13 (by decide +kernel); exact ⟨q, fun _ => ⟨⟨h1, h3⟩, fun o i tx h => by cases h; exact vk_R.of (hts _ sr13) h2⟩⟩
      · obtain ⟨q, h1, h2, h3⟩ := str_of hs (hG _ wI) sx14 (by decide +kernel); exact ⟨q, fun _ => ⟨⟨h1, h3⟩, fun o i tx h => by cases h; exact vk_R.of (hts _ sr14) h2⟩⟩
      · obtain ⟨q, h1, h2, h3⟩ := str_of hs (hG _ wI) sx15 (by decide +kernel); exact ⟨q, fun _ => ⟨⟨h1, h3⟩, fun o i tx h => by cases h; exact vk_R.of (hts _ sr15) h2⟩⟩
      · obtain ⟨q, h1, h2, h3⟩ := str_of hs (hG _ wI) sx16 (by decide +kernel); exact ⟨q, fun _ => ⟨⟨h1, h3⟩, fun o i tx h => by cases h; exact vk_R.of (hts _ sr16) h2⟩⟩
      · obtain ⟨q, h1, h2, h3⟩ := str_of hs (hG _ wI) sx17 (by decide +kernel); exact ⟨q, fun _ => ⟨⟨h1, h3⟩, fun o i tx h => by cases h; exact vk_R.of (hts _ sr17) h2⟩⟩
      · obtain ⟨q, h1, h2, h3⟩ := str_of hs (hG _ wI) sx18 (by decide +kernel); exact ⟨q, fun _ => ⟨⟨h1, h3⟩, fun o i tx h => by cases h; exact vk_R.of (hts _ sr18) h2⟩⟩
      · obtain ⟨q, h1, h2, h3⟩ := str_of hs (hG _ wI) sx19 (by decide +kernel); exact ⟨q, fun _ => ⟨⟨h1, h3⟩, fun o i tx h => by cases h; exact vk_R.of (hts _ sr19) h2⟩⟩
      · obtain ⟨q, h1, h2, h3⟩ := str_of hs (hG _ wI) sx20 (by decide +kernel); exact ⟨q, fun _ => ⟨⟨h1, h3⟩, fun o i tx h => by cases h; exact vk_R.of (hts _ sr20) h2⟩⟩
      · obtain ⟨q, h1, h2, h3⟩ := str_of hs (hG _ wI) sx21 (by decide +kernel); exact ⟨q, fun _ => ⟨⟨h1, h3⟩, fun o i tx h => by cases h; exact vk_R.of (hts _ sr21) h2⟩⟩
      · obtain ⟨q, h1, h2, h3⟩ := str_of hs (hG _ wI) sx22 (by decide +kernel); exact ⟨q, fun _ => ⟨⟨h1, h3⟩, fun o i tx h => by cases h; exact vk_R.of (hts _ sr22) h2⟩⟩
      · obtain ⟨q, h1, h2, h3⟩ := str_of hs (hG _ wI) sx23 (by decide +kernel); exact ⟨q, fun _ => ⟨⟨h1, h3⟩, fun o i tx h => by cases h; exact vk_R.of (hts _ sr23) h2⟩⟩
      · obtain ⟨q, h1, h2, h3⟩ := str_of hs (hG _ wI) sx24 (by decide +kernel); exact ⟨q, fun _ => ⟨⟨h1, h3⟩, fun o i tx h => by cases h; exact vk_R.of (hts _ sr24) h2⟩⟩
    · exact ⟨(0, 0), fun h => absurd h (by omega)⟩
  obtain ⟨ss, hss⟩ := Classical.axiomOfChoice hst
  refine ⟨(fun k => (dd k).1, fun k => (dd k).2), ar, fun j => (ss j).1, fun j => (ss j).2, fun w hw => ?_, ⟨fun c q hq => hdd c q hq, fun k q hk => ?_⟩, ?_, vx_Zqof (hts _ wU) (hts _ wT) (hs _ zU) hA, vx_Zqof (hts _ wS) (hts _ wT) (hs _ zS) hA, fun j hj => (hss j hj).1.1, fun j o i tx h => (hss j (by
      have := (List.getElem?_eq_some_iff.mp h).1
      simpa [strT] using this)).2 o i tx h, ⟨va_Zof (hts _ wC) (hts _ wJ) (va_eqi (hs _ zC)) hA, vx_Zqof (hts _ wF) (hts _ wP) (hs _ zF) hA, fun j hj => by obtain ⟨cell, c1, c2⟩ := (hss j hj).1.2; exact ⟨cell, c1, c2, hA _ (Array.getElem?_eq_some_iff.mp c1).1⟩⟩, fun a n f h => ?_⟩
  · have hw1 := hts w (exL_lw hw)
    rcases exL_kind hw with ⟨a, b, c, d, rfl⟩ | ⟨a, b, rfl⟩ | ⟨C, rfl⟩ | ⟨x, rfl⟩ | ⟨x, b, n, r, rfl⟩
    · exact va_Nw.of rfl hw1
    · exact va_Nw.of rfl hw1
    · exact va_AO.of hw1
    · exact va_Nw.of rfl hw1
    · exact codeSync_warm (State.WarmedH.refl s) hw1
  · have hk9 : k < 9 := by
      have := (List.getElem?_eq_some_iff.mp hk).1
      simpa [tysA] using this
    rw [tysA_at ar (by omega)] at hk
    cases hk
    exact har k (by omega)
  · intro q hq
    simp only [ncsL, List.mem_cons, List.not_mem_nil, or_false] at hq
    rcases hq with rfl | rfl | rfl | rfl | rfl
    · exact va_Nc.of (hs _ nc0)
    · exact va_Nc.of (hs _ nc1)
    · exact va_Nc.of (hs _ nc2)
    · exact va_Nc.of (hs _ nc3)
    · exact va_Nc.of (hs _ nc4)
  · simp only [roB] at h
    split at h
    · rename_i e; cases h; subst e; exact ⟨hX, hb, hA a hb⟩
    · cases h
