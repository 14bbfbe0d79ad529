/-! the law: one call of each, and the comparison -/
def lawOk (Inv : wM → wM → Prop) : Prop := (∀ (x1 : Int64) (Mx Mm : wM), Inv Mx Mm → w_X11_feed x1 Mx (fun r A => w_X12_feed x1 Mm (fun r2 B => r = r2 ∧ Inv A B))) ∧
  (∀ (x1 : Int32) (Mx Mm : wM), Inv Mx Mm → w_X11_end x1 Mx (fun r A => w_X12_end x1 Mm (fun r2 B => r = r2 ∧ Inv A B))) ∧
  (∀ (Mx Mm : wM), Inv Mx Mm → w_X11_parts Mx (fun r A => w_X12_parts Mm (fun r2 B => r = r2 ∧ Inv A B))) ∧
  (∀ (Mx Mm : wM), Inv Mx Mm → w_X11_fault Mx (fun r A => w_X12_fault Mm (fun r2 B => r = r2 ∧ Inv A B))) ∧
  (∀ (x1 : Int32) (x2 : Int32) (Mx Mm : wM), Inv Mx Mm → w_X11_part x1 x2 Mx (fun r A => w_X12_part x1 x2 Mm (fun r2 B => r = r2 ∧ Inv A B))) ∧
  (∀ (x1 : Int32) (Mx Mm : wM), Inv Mx Mm → w_X11_chip x1 Mx (fun r A => w_X12_chip x1 Mm (fun r2 B => r = r2 ∧ Inv A B))) ∧
  (∀ (x1 : Int32) (x2 : Int32) (Mx Mm : wM), Inv Mx Mm → w_X11_chipOf x1 x2 Mx (fun r A => w_X12_chipOf x1 x2 Mm (fun r2 B => r = r2 ∧ Inv A B))) ∧
  (∀ (x1 : Int32) (x2 : Int32) (Mx Mm : wM), Inv Mx Mm → w_X11_cut x1 x2 Mx (fun r A => w_X12_cut x1 x2 Mm (fun r2 B => r = r2 ∧ Inv A B))) ∧
  (∀ (x1 : Int32) (x2 : Int32) (Mx Mm : wM), Inv Mx Mm → (x1 = nI 0 ∨ x1 = nI 1) → (x2 = nI 0 ∨ x2 = nI 1) → w_X11_tick x1 x2 Mx (fun r A => w_X12_tick x1 x2 Mm (fun r2 B => r = r2 ∧ Inv A B))) ∧
  (∀ (x1 : Int32) (x2 : Int32) (x3 : Int32) (Mx Mm : wM), Inv Mx Mm → w_X11_ticks x1 x2 x3 Mx (fun r A => w_X12_ticks x1 x2 x3 Mm (fun r2 B => r = r2 ∧ Inv A B))) ∧
  (∀ (x1 : Int32) (Mx Mm : wM), Inv Mx Mm → w_X11_now x1 Mx (fun r A => w_X12_now x1 Mm (fun r2 B => r = r2 ∧ Inv A B))) ∧
  (∀ (x1 : Int32) (x2 : Int32) (x3 : Int32) (Mx Mm : wM), Inv Mx Mm → w_X11_path x1 x2 x3 Mx (fun r A => w_X12_path x1 x2 x3 Mm (fun r2 B => r = r2 ∧ Inv A B))) ∧
  (∀ (x1 : Int32) (Mx Mm : wM), Inv Mx Mm → w_X11_go x1 Mx (fun r A => w_X12_go x1 Mm (fun r2 B => r = r2 ∧ Inv A B))) ∧
  (∀ (x1 : Int32) (x2 : Int32) (x3 : Int32) (x4 : Int32) (x5 : Int32) (Mx Mm : wM), Inv Mx Mm → (x1 = nI 0 ∨ x1 = nI 1) → w_X11_scan x1 x2 x3 x4 x5 Mx (fun r A => w_X12_scan x1 x2 x3 x4 x5 Mm (fun r2 B => r = r2 ∧ Inv A B))) ∧
  (∀ (x1 : Int32) (Mx Mm : wM), Inv Mx Mm → w_X11_log x1 Mx (fun r A => w_X12_log x1 Mm (fun r2 B => r = r2 ∧ Inv A B))) ∧
  (∀ (Mx Mm : wM), Inv Mx Mm → w_X11_found Mx (fun r A => w_X12_found Mm (fun r2 B => r = r2 ∧ Inv A B))) ∧
  (∀ (x1 : Int32) (Mx Mm : wM), Inv Mx Mm → w_X11_identity x1 Mx (fun r A => w_X12_identity x1 Mm (fun r2 B => r = r2 ∧ Inv A B))) ∧
  (∀ (Mx Mm : wM), Inv Mx Mm → w_X11_broken Mx (fun r A => w_X12_broken Mm (fun r2 B => r = r2 ∧ Inv A B))) ∧
  (∀ (Mx Mm : wM), Inv Mx Mm → w_X11_net Mx (fun r A => w_X12_net Mm (fun r2 B => r = r2 ∧ Inv A B))) ∧
  (∀ (x1 : Int32) (x2 : Int32) (x3 : Int32) (Mx Mm : wM), Inv Mx Mm → w_X11_join x1 x2 x3 Mx (fun r A => w_X12_join x1 x2 x3 Mm (fun r2 B => r = r2 ∧ Inv A B))) ∧
  (∀ (x1 : Int32) (x2 : Int32) (Mx Mm : wM), Inv Mx Mm → w_X11_stick x1 x2 Mx (fun r A => w_X12_stick x1 x2 Mm (fun r2 B => r = r2 ∧ Inv A B))) ∧
  (∀ (x1 : Int32) (x2 : Int32) (x3 : Int32) (Mx Mm : wM), Inv Mx Mm → w_X11_bridge x1 x2 x3 Mx (fun r A => w_X12_bridge x1 x2 x3 Mm (fun r2 B => r = r2 ∧ Inv A B))) ∧
  (∀ (x1 : Int32) (x2 : Int32) (x3 : Int32) (Mx Mm : wM), Inv Mx Mm → (x3 = nI 0 ∨ x3 = nI 1) → w_X11_open x1 x2 x3 Mx (fun r A => w_X12_open x1 x2 x3 Mm (fun r2 B => r = r2 ∧ Inv A B))) ∧
  (∀ (x1 : Int32) (x2 : Int32) (Mx Mm : wM), Inv Mx Mm → w_X11_netOf x1 x2 Mx (fun r A => w_X12_netOf x1 x2 Mm (fun r2 B => r = r2 ∧ Inv A B))) ∧
  (∀ (x1 : Int32) (Mx Mm : wM), Inv Mx Mm → w_X11_rows x1 Mx (fun r A => w_X12_rows x1 Mm (fun r2 B => r = r2 ∧ Inv A B))) ∧
  (∀ (x1 : Int32) (x2 : Int32) (x3 : Int32) (Mx Mm : wM), Inv Mx Mm → w_X11_word x1 x2 x3 Mx (fun r A => w_X12_word x1 x2 x3 Mm (fun r2 B => r = r2 ∧ Inv A B))) ∧
  (∀ (x1 : Int32) (x2 : Int32) (x3 : Int32) (x4 : Int32) (Mx Mm : wM), Inv Mx Mm → w_X11_answer x1 x2 x3 x4 Mx (fun r A => w_X12_answer x1 x2 x3 x4 Mm (fun r2 B => r = r2 ∧ Inv A B))) ∧
  (∀ (x1 : Int32) (x2 : Int32) (Mx Mm : wM), Inv Mx Mm → w_X11_likely x1 x2 Mx (fun r A => w_X12_likely x1 x2 Mm (fun r2 B => r = r2 ∧ Inv A B))) ∧
  (∀ (x1 : Int32) (x2 : Int32) (Mx Mm : wM), Inv Mx Mm → w_X11_blind x1 x2 Mx (fun r A => w_X12_blind x1 x2 Mm (fun r2 B => r = r2 ∧ Inv A B))) ∧
  (∀ (x1 : Int32) (x2 : Int32) (Mx Mm : wM), Inv Mx Mm → w_X11_next x1 x2 Mx (fun r A => w_X12_next_ x1 x2 Mm (fun r2 B => r = r2 ∧ Inv A B))) ∧
  (∀ (x1 : Int32) (Mx Mm : wM), Inv Mx Mm → w_X11_cost x1 Mx (fun r A => w_X12_cost x1 Mm (fun r2 B => r = r2 ∧ Inv A B))) ∧
  (∀ (x1 : Int32) (x2 : Int32) (x3 : Int32) (Mx Mm : wM), Inv Mx Mm → w_X11_sheet x1 x2 x3 Mx (fun r A => w_X12_sheet x1 x2 x3 Mm (fun r2 B => r = r2 ∧ Inv A B))) ∧
  (∀ (x1 : Int32) (x2 : Int32) (x3 : Int32) (Mx Mm : wM), Inv Mx Mm → w_X11_lay x1 x2 x3 Mx (fun r A => w_X12_lay x1 x2 x3 Mm (fun r2 B => r = r2 ∧ Inv A B))) ∧
  (∀ (x1 : Int32) (Mx Mm : wM), Inv Mx Mm → w_X11_count x1 Mx (fun r A => w_X12_count x1 Mm (fun r2 B => r = r2 ∧ Inv A B)))
set_option maxRecDepth 100000 in
theorem ll_X11_feed : Jvm.Cond.methodLink RL 15 yX11_feed ∈ gw := vx_t 408 (by decide +kernel) (by decide +kernel)
set_option maxRecDepth 100000 in
theorem ll_X12_feed : Jvm.Cond.methodLink RL 19 yX12_feed ∈ gw := vx_t 1214 (by decide +kernel) (by decide +kernel)
set_option maxRecDepth 100000 in
theorem ll_X11_end : Jvm.Cond.methodLink RL 20 yX11_end ∈ gw := vx_t 416 (by decide +kernel) (by decide +kernel)
set_option maxRecDepth 100000 in
theorem ll_X12_end : Jvm.Cond.methodLink RL 24 yX12_end ∈ gw := vx_t 1219 (by decide +kernel) (by decide +kernel)
set_option maxRecDepth 100000 in
theorem ll_X11_parts : Jvm.Cond.methodLink RL 25 yX11_parts ∈ gw := vx_t 420 (by decide +kernel) (by decide +kernel)
set_option maxRecDepth 100000 in
theorem ll_X12_parts : Jvm.Cond.methodLink RL 29 yX12_parts ∈ gw := vx_t 1226 (by decide +kernel) (by decide +kernel)
set_option maxRecDepth 100000 in
theorem ll_X11_fault : Jvm.Cond.methodLink RL 30 yX11_fault ∈ gw := vx_t 549 (by decide +kernel) (by decide +kernel)
set_option maxRecDepth 100000 in
theorem ll_X12_fault : Jvm.Cond.methodLink RL 33 yX12_fault ∈ gw := vx_t 1276 (by decide +kernel) (by decide +kernel)
set_option maxRecDepth 100000 in
theorem ll_X11_part : Jvm.Cond.methodLink RL 34 yX11_part ∈ gw := vx_t 553 (by decide +kernel) (by decide +kernel)
set_option maxRecDepth 100000 in
theorem ll_X12_part : Jvm.Cond.methodLink RL 38 yX12_part ∈ gw := vx_t 1280 (by decide +kernel) (by decide +kernel)
set_option maxRecDepth 100000 in
theorem ll_X11_chip : Jvm.Cond.methodLink RL 39 yX11_chip ∈ gw := vx_t 566 (by decide +kernel) (by decide +kernel)
set_option maxRecDepth 100000 in
theorem ll_X12_chip : Jvm.Cond.methodLink RL 42 yX12_chip ∈ gw := vx_t 1289 (by decide +kernel) (by decide +kernel)
set_option maxRecDepth 100000 in
theorem ll_X11_chipOf : Jvm.Cond.methodLink RL 43 yX11_chipOf ∈ gw := vx_t 582 (by decide +kernel) (by decide +kernel)
set_option maxRecDepth 100000 in
theorem ll_X12_chipOf : Jvm.Cond.methodLink RL 46 yX12_chipOf ∈ gw := vx_t 1297 (by decide +kernel) (by decide +kernel)
set_option maxRecDepth 100000 in
theorem ll_X11_cut : Jvm.Cond.methodLink RL 47 yX11_cut ∈ gw := vx_t 618 (by decide +kernel) (by decide +kernel)
set_option maxRecDepth 100000 in
theorem ll_X12_cut : Jvm.Cond.methodLink RL 50 yX12_cut ∈ gw := vx_t 1348 (by decide +kernel) (by decide +kernel)
set_option maxRecDepth 100000 in
theorem ll_X11_tick : Jvm.Cond.methodLink RL 51 yX11_tick ∈ gw := vx_t 625 (by decide +kernel) (by decide +kernel)
set_option maxRecDepth 100000 in
theorem ll_X12_tick : Jvm.Cond.methodLink RL 55 yX12_tick ∈ gw := vx_t 1352 (by decide +kernel) (by decide +kernel)
set_option maxRecDepth 100000 in
theorem ll_X11_ticks : Jvm.Cond.methodLink RL 56 yX11_ticks ∈ gw := vx_t 680 (by decide +kernel) (by decide +kernel)
set_option maxRecDepth 100000 in
theorem ll_X12_ticks : Jvm.Cond.methodLink RL 60 yX12_ticks ∈ gw := vx_t 1383 (by decide +kernel) (by decide +kernel)
set_option maxRecDepth 100000 in
theorem ll_X11_now : Jvm.Cond.methodLink RL 61 yX11_now ∈ gw := vx_t 684 (by decide +kernel) (by decide +kernel)
set_option maxRecDepth 100000 in
theorem ll_X12_now : Jvm.Cond.methodLink RL 64 yX12_now ∈ gw := vx_t 1388 (by decide +kernel) (by decide +kernel)
set_option maxRecDepth 100000 in
theorem ll_X11_path : Jvm.Cond.methodLink RL 65 yX11_path ∈ gw := vx_t 688 (by decide +kernel) (by decide +kernel)
set_option maxRecDepth 100000 in
theorem ll_X12_path : Jvm.Cond.methodLink RL 68 yX12_path ∈ gw := vx_t 1392 (by decide +kernel) (by decide +kernel)
set_option maxRecDepth 100000 in
theorem ll_X11_go : Jvm.Cond.methodLink RL 69 yX11_go ∈ gw := vx_t 710 (by decide +kernel) (by decide +kernel)
set_option maxRecDepth 100000 in
theorem ll_X12_go : Jvm.Cond.methodLink RL 72 yX12_go ∈ gw := vx_t 1401 (by decide +kernel) (by decide +kernel)
set_option maxRecDepth 100000 in
theorem ll_X11_scan : Jvm.Cond.methodLink RL 73 yX11_scan ∈ gw := vx_t 721 (by decide +kernel) (by decide +kernel)
set_option maxRecDepth 100000 in
theorem ll_X12_scan : Jvm.Cond.methodLink RL 77 yX12_scan ∈ gw := vx_t 1409 (by decide +kernel) (by decide +kernel)
set_option maxRecDepth 100000 in
theorem ll_X11_log : Jvm.Cond.methodLink RL 78 yX11_log ∈ gw := vx_t 740 (by decide +kernel) (by decide +kernel)
set_option maxRecDepth 100000 in
theorem ll_X12_log : Jvm.Cond.methodLink RL 81 yX12_log ∈ gw := vx_t 1418 (by decide +kernel) (by decide +kernel)
set_option maxRecDepth 100000 in
theorem ll_X11_found : Jvm.Cond.methodLink RL 82 yX11_found ∈ gw := vx_t 744 (by decide +kernel) (by decide +kernel)
set_option maxRecDepth 100000 in
theorem ll_X12_found : Jvm.Cond.methodLink RL 85 yX12_found ∈ gw := vx_t 1422 (by decide +kernel) (by decide +kernel)
set_option maxRecDepth 100000 in
theorem ll_X11_identity : Jvm.Cond.methodLink RL 86 yX11_identity ∈ gw := vx_t 758 (by decide +kernel) (by decide +kernel)
set_option maxRecDepth 100000 in
theorem ll_X12_identity : Jvm.Cond.methodLink RL 90 yX12_identity ∈ gw := vx_t 1430 (by decide +kernel) (by decide +kernel)
set_option maxRecDepth 100000 in
theorem ll_X11_broken : Jvm.Cond.methodLink RL 91 yX11_broken ∈ gw := vx_t 773 (by decide +kernel) (by decide +kernel)
set_option maxRecDepth 100000 in
theorem ll_X12_broken : Jvm.Cond.methodLink RL 94 yX12_broken ∈ gw := vx_t 1438 (by decide +kernel) (by decide +kernel)
set_option maxRecDepth 100000 in
theorem ll_X11_net : Jvm.Cond.methodLink RL 95 yX11_net ∈ gw := vx_t 781 (by decide +kernel) (by decide +kernel)
set_option maxRecDepth 100000 in
theorem ll_X12_net : Jvm.Cond.methodLink RL 98 yX12_net ∈ gw := vx_t 1442 (by decide +kernel) (by decide +kernel)
set_option maxRecDepth 100000 in
theorem ll_X11_join : Jvm.Cond.methodLink RL 99 yX11_join ∈ gw := vx_t 813 (by decide +kernel) (by decide +kernel)
set_option maxRecDepth 100000 in
theorem ll_X12_join : Jvm.Cond.methodLink RL 102 yX12_join ∈ gw := vx_t 1446 (by decide +kernel) (by decide +kernel)
set_option maxRecDepth 100000 in
theorem ll_X11_stick : Jvm.Cond.methodLink RL 103 yX11_stick ∈ gw := vx_t 826 (by decide +kernel) (by decide +kernel)
set_option maxRecDepth 100000 in
theorem ll_X12_stick : Jvm.Cond.methodLink RL 106 yX12_stick ∈ gw := vx_t 1462 (by decide +kernel) (by decide +kernel)
set_option maxRecDepth 100000 in
theorem ll_X11_bridge : Jvm.Cond.methodLink RL 107 yX11_bridge ∈ gw := vx_t 831 (by decide +kernel) (by decide +kernel)
set_option maxRecDepth 100000 in
theorem ll_X12_bridge : Jvm.Cond.methodLink RL 110 yX12_bridge ∈ gw := vx_t 1466 (by decide +kernel) (by decide +kernel)
set_option maxRecDepth 100000 in
theorem ll_X11_open : Jvm.Cond.methodLink RL 111 yX11_open ∈ gw := vx_t 835 (by decide +kernel) (by decide +kernel)
set_option maxRecDepth 100000 in
theorem ll_X12_open : Jvm.Cond.methodLink RL 115 yX12_open ∈ gw := vx_t 1470 (by decide +kernel) (by decide +kernel)
set_option maxRecDepth 100000 in
theorem ll_X11_netOf : Jvm.Cond.methodLink RL 116 yX11_netOf ∈ gw := vx_t 839 (by decide +kernel) (by decide +kernel)
set_option maxRecDepth 100000 in
theorem ll_X12_netOf : Jvm.Cond.methodLink RL 119 yX12_netOf ∈ gw := vx_t 1474 (by decide +kernel) (by decide +kernel)
set_option maxRecDepth 100000 in
theorem ll_X11_rows : Jvm.Cond.methodLink RL 120 yX11_rows ∈ gw := vx_t 844 (by decide +kernel) (by decide +kernel)
set_option maxRecDepth 100000 in
theorem ll_X12_rows : Jvm.Cond.methodLink RL 123 yX12_rows ∈ gw := vx_t 1478 (by decide +kernel) (by decide +kernel)
set_option maxRecDepth 100000 in
theorem ll_X11_word : Jvm.Cond.methodLink RL 124 yX11_word ∈ gw := vx_t 859 (by decide +kernel) (by decide +kernel)
set_option maxRecDepth 100000 in
theorem ll_X12_word : Jvm.Cond.methodLink RL 127 yX12_word ∈ gw := vx_t 1490 (by decide +kernel) (by decide +kernel)
set_option maxRecDepth 100000 in
theorem ll_X11_answer : Jvm.Cond.methodLink RL 128 yX11_answer ∈ gw := vx_t 892 (by decide +kernel) (by decide +kernel)
set_option maxRecDepth 100000 in
theorem ll_X12_answer : Jvm.Cond.methodLink RL 132 yX12_answer ∈ gw := vx_t 1502 (by decide +kernel) (by decide +kernel)
set_option maxRecDepth 100000 in
theorem ll_X11_likely : Jvm.Cond.methodLink RL 133 yX11_likely ∈ gw := vx_t 924 (by decide +kernel) (by decide +kernel)
set_option maxRecDepth 100000 in
theorem ll_X12_likely : Jvm.Cond.methodLink RL 136 yX12_likely ∈ gw := vx_t 1518 (by decide +kernel) (by decide +kernel)
set_option maxRecDepth 100000 in
theorem ll_X11_blind : Jvm.Cond.methodLink RL 137 yX11_blind ∈ gw := vx_t 937 (by decide +kernel) (by decide +kernel)
set_option maxRecDepth 100000 in
theorem ll_X12_blind : Jvm.Cond.methodLink RL 140 yX12_blind ∈ gw := vx_t 1532 (by decide +kernel) (by decide +kernel)
set_option maxRecDepth 100000 in
theorem ll_X11_next : Jvm.Cond.methodLink RL 141 yX11_next ∈ gw := vx_t 961 (by decide +kernel) (by decide +kernel)
set_option maxRecDepth 100000 in
theorem ll_X12_next_ : Jvm.Cond.methodLink RL 144 yX12_next_ ∈ gw := vx_t 1536 (by decide +kernel) (by decide +kernel)
set_option maxRecDepth 100000 in
theorem ll_X11_cost : Jvm.Cond.methodLink RL 145 yX11_cost ∈ gw := vx_t 977 (by decide +kernel) (by decide +kernel)
set_option maxRecDepth 100000 in
theorem ll_X12_cost : Jvm.Cond.methodLink RL 148 yX12_cost ∈ gw := vx_t 1540 (by decide +kernel) (by decide +kernel)
set_option maxRecDepth 100000 in
theorem ll_X11_sheet : Jvm.Cond.methodLink RL 149 yX11_sheet ∈ gw := vx_t 993 (by decide +kernel) (by decide +kernel)
set_option maxRecDepth 100000 in
theorem ll_X12_sheet : Jvm.Cond.methodLink RL 152 yX12_sheet ∈ gw := vx_t 1548 (by decide +kernel) (by decide +kernel)
set_option maxRecDepth 100000 in
theorem ll_X11_lay : Jvm.Cond.methodLink RL 153 yX11_lay ∈ gw := vx_t 1002 (by decide +kernel) (by decide +kernel)
set_option maxRecDepth 100000 in
theorem ll_X12_lay : Jvm.Cond.methodLink RL 156 yX12_lay ∈ gw := vx_t 1552 (by decide +kernel) (by decide +kernel)
set_option maxRecDepth 100000 in
theorem ll_X11_count : Jvm.Cond.methodLink RL 157 yX11_count ∈ gw := vx_t 1006 (by decide +kernel) (by decide +kernel)
set_option maxRecDepth 100000 in
theorem ll_X12_count : Jvm.Cond.methodLink RL 160 yX12_count ∈ gw := vx_t 1556 (by decide +kernel) (by decide +kernel)
set_option maxRecDepth 100000 in
theorem ll_c13 : Jvm.Cond.constantLong RL 13 4294967295 ∈ gw := vx_t 1560 (by decide +kernel) (by decide +kernel)
def lawA (s : State) : Nat → Prop := fun q => s.heap.size ≤ q
/-- the two worlds side by side -/
def LWd (D : va_G) (dA : Nat → ClassId) (adX adM : Nat → Nat) (s : State) (Mx Mm : wM) (H : Heap) (locs : List Loc) : Prop :=
  va_P D vwCl (aWl dA adX (mkX Mx)) H ∧ va_P D vwCl (aWl dA adM (mkM Mm)) H ∧ va_D (lawA s) (aWl dA adX (mkX Mx)) ∧ va_D (lawA s) (aWl dA adM (mkM Mm)) ∧ va_S (lawA s) s.heap H locs
/-- the fixed part of the law's frame -/
def LFx (p : Program) (l : Launch) (s : State) (m : MethodId) (c : Code) (b L : Nat) (xs : Nat → Int32) (D : va_G) (dA : Nat → ClassId) (adX adM : Nat → Nat) : Prop :=
  p.tables.exec = Jvm.exec ∧ c.code = code ∧ c.maxLocals = 4 ∧ s.vm.findClass RL = some m.cls ∧ (∀ w ∈ gw, w.before #[Value.ref b] s = true) ∧ va_X b L xs s s.heap ∧ b < s.heap.size ∧ va_K D vwCl (aTys dA) s ∧ aExt adX (lawA s) s s.heap ∧ aExt adM (lawA s) s s.heap ∧ (∀ i j, i < 79 → j < 43 → adX i ≠ adM j) ∧ aNmOk l
theorem aWl_rest {dA : Nat → ClassId} {ad : Nat → Nat} {N : aV} {k : Nat} {q : Nat × va_E} (h : (aWl dA ad N)[k]? = some q) : k < N.1.length ∧ q.1 = ad k := ⟨(aWl_at h).1, by rw [(aWl_at h).2]⟩
section LAW
variable {p : Program} {l : Launch} {e : Env} {s : State} {m : MethodId} {below : List Frame} {meth : Method} {c : Code} {H : Heap} {locs : List Loc} {cells slots : Nat} {Q : State → Prop}
variable {b L : Nat} {xs : Nat → Int32} {D : va_G} {dA : Nat → ClassId} {adX adM : Nat → Nat} {Mx Mm : wM} {rl : Array Slot} {pc : Nat}
theorem lcall {mid idx : Nat} {as rest : List Value} {r : Option Value × aV} {N : aV} {ad : Nat → Nat} {n ci : Nat} (F : LFx p l s m c b L xs D dA adX adM) (hE : aExt ad (lawA s) s s.heap) (hm : mid < mNm) (hV : mV mid ≤ 10) (h2 : 2 ≤ mKd mid) (hlk : Jvm.Cond.methodLink RL idx (mY mid) ∈ gw) (hX : aX false n mid (aEn mid (.ref 0 :: as) N) = some r) (hsl : (aSl (.ref 0 :: as)).length ≤ mL mid) (hlen : r.2.1.length = N.1.length) (hcsz : csz r.2 = csz N) (hna : as.length = mA mid) (hN : N.1[0]? = some (mC mid, ci)) (hrest : aCat rest ≤ 8)
    (hP : va_P D vwCl (aWl dA ad N) H) (hD : va_D (lawA s) (aWl dA ad N)) (hS : va_S (lawA s) s.heap H locs) (hc : cells ≤ 600000) (hs : slots ≤ 7302250) (hls : rl.size = 4) (hd : decode code pc = .ok (.invokevirtual idx, 3))
    (k : ∀ (H1 : Heap) (locs1 : List Loc), va_P D vwCl (aWl dA ad r.2) H1 → va_D (lawA s) (aWl dA ad r.2) → va_S (lawA s) s.heap H1 locs1 → (∀ q : Nat, q < H.size → (∀ i, i < N.1.length → q ≠ ad i) → H1[q]? = H[q]?) → W p l e room_1 s m #[Value.ref b] below meth c H1 locs1 cells slots Q (F0 m (pc + 3) rl (r.1.toList ++ rest.map (aTv ad)))) : W p l e room_1 s m #[Value.ref b] below meth c H locs cells slots Q (F0 m pc rl ((as.map (aTv ad)).reverse ++ .ref (ad 0) :: rest.map (aTv ad))) := by
  obtain ⟨hx, hb, hml, hown, hts, -, -, hK, -, -, -, hnm⟩ := F
  obtain ⟨f1, f2, f3, f4, f5, f6, f7, f8⟩ := aMok_f hm
  obtain ⟨y1, y2, y3, y4⟩ : mC mid < 12 ∧ (aCl (mC mid)).1 = (mY mid).cls ∧ Jvm.Cond.instanceMethod (mY mid) ∈ gw ∧ Jvm.Cond.selects (mY mid).cls (mY mid) (mY mid) ∈ gw := by
    rcases f8 with ⟨f8, -⟩ | ⟨f8, -⟩ | ⟨-, f8⟩
    · omega
    · omega
    · exact f8
  have hM : aMet l D dA ad false mid (.ref 0 :: as) N H.size r := aMet_of (aRun hnm n) hm hX hsl (fun q => by cases q) D dA ad H.size
  have hA1 : ∀ q, va_A (aWl dA ad N) H.size q → lawA s q := by
    intro q hq
    rcases hq with ⟨i, e, hq⟩ | hq
    · exact hD.2 i _ hq
    · exact Nat.le_trans hS.1 hq
  have e1 : r.2.1.length - N.1.length = 0 := by omega
  have e2 : csz r.2 - csz N = 0 := by omega
  unfold aMet at hM
  rw [e1, e2] at hM
  have hgb := aWl_get (dA := dA) (ad := ad) hN
  rw [aE_obj y1] at hgb
  have hrecv : ∃ cellB : Cell, H[ad 0]? = some cellB ∧ cellB.vm.isStatics = false ∧ s.vm.findClass (mY mid).cls = some cellB.cls := by
    rw [← y2]
    exact va_recv hK hP (ci := mC mid) (q0 := 0) (aClF_all y1).1 hgb
  have hPre : ∀ U : State, U.heap = H → s.WarmedH U.vm → va_Pc ((Value.ref 0 :: as).map (aTv ad)) (aPc D dA ad false N H.size) ((Value.ref 0 :: as).map (aTv ad)).toArray U := by
    intro U hU hWm
    refine ⟨rfl, by rw [hU], by rw [hU]; exact hP, hD.self, va_K.moved hWm.alike hK, ?_, fun q => by cases q⟩
    rw [hU]
    exact ((hE.kept hS.2.1).narrow hA1).warm hWm
  have hR := va_runV (e := e) (s := s) (locs := locs) (cells := cells) (slots := slots) (H := H) (below := below) (meth := meth) (R := room_1) (C := (mY mid).cls) (b := ad 0) (As := as.map (aTv ad)) (rest := rest.map (aTv ad)) (g := F0 m pc rl ((as.map (aTv ad)).reverse ++ .ref (ad 0) :: rest.map (aTv ad))) (n := mA mid) ⟨hx, hb, hml, hown, hts⟩ hM ⟨callB_of (mA mid) hts (aGood hm) rfl rfl rfl (hts _ f2) (hts _ hlk) f5 ⟨by show mV mid + 1 ≤ 12; omega, by show 8 + (mL mid + 11) + 32 * mV mid ≤ 430; omega⟩, hts _ y3, hts _ y4⟩ ⟨aPc_blind, hrecv, hPre⟩ rfl (by simp [hna]) hls rfl (lv_room (by rw [aCat_sum]; exact hrest)) hd ⟨by show cells + 0 ≤ 600000; omega, by show slots + 0 ≤ 7302250; omega⟩
  intro T hT X
  obtain ⟨v, st₀, t, T', Lc, h0, X', hL, e3, e4, ⟨hv, hP1, hD1, hz, hk⟩, st⟩ := hR T hT X
  cases hv
  rw [h0] at hz hk
  rw [Nat.add_zero, Nat.add_zero] at X'
  obtain ⟨t2, a1, b1⟩ := k T'.heap (locs ++ Lc) (by rw [e3]; exact hP1) (hD1.weaken (fun k q _ h => hA1 q.1 h)) ⟨Nat.le_trans hS.1 (by rw [e3]; exact hz), fun q h1 h2 => by rw [e3, hk q (Nat.lt_of_lt_of_le h1 hS.1) (fun z => h2 (hA1 q z))]; exact hS.2.1 q h1 h2, fun q hq => by
    rcases List.mem_append.mp hq with h | h
    · exact hS.2.2 q h
    · exact hA1 _ (hL q h)⟩ (fun q h1 h2 => by
      rw [e3]
      refine hk q h1 (fun z => ?_)
      rcases z with ⟨i, e, z⟩ | z
      · have := aWl_rest z
        exact h2 i this.1 this.2
      · omega) T' rfl X'
  exact ⟨t2, st t2 a1, b1⟩
/-- a call of the class -/
theorem lcX {mid idx : Nat} {as rest : List Value} {P : Value → wM → Prop} (F : LFx p l s m c b L xs D dA adX adM) (hm : mid < mNm) (hV : mV mid ≤ 10) (h2 : 2 ≤ mKd mid) (hC : mC mid = 10) (hlk : Jvm.Cond.methodLink RL idx (mY mid) ∈ gw) (hG : aG mid (aEn mid (.ref 0 :: as) (mkX Mx)) (fun r => ∃ v M, r = (some v, mkX M) ∧ P v M)) (hsl : (aSl (.ref 0 :: as)).length ≤ mL mid) (hna : as.length = mA mid) (hrest : aCat rest ≤ 8)
    (hW : LWd D dA adX adM s Mx Mm H locs) (hc : cells ≤ 600000) (hs : slots ≤ 7302250) (hls : rl.size = 4) (hd : decode code pc = .ok (.invokevirtual idx, 3))
    (k : ∀ (v : Value) (M : wM) (H1 : Heap) (locs1 : List Loc), P v M → LWd D dA adX adM s M Mm H1 locs1 → W p l e room_1 s m #[Value.ref b] below meth c H1 locs1 cells slots Q (F0 m (pc + 3) rl (v :: rest.map (aTv adX)))) : W p l e room_1 s m #[Value.ref b] below meth c H locs cells slots Q (F0 m pc rl ((as.map (aTv adX)).reverse ++ .ref (adX 0) :: rest.map (aTv adX))) := by
  obtain ⟨n, r, hX, v, M, rfl, hp⟩ := hG
  obtain ⟨w1, w2, w3, w4, w5⟩ := hW
  refine lcall F F.2.2.2.2.2.2.2.2.1 hm hV h2 hlk hX hsl rfl rfl hna (ci := 9) (by rw [hC]; rfl) hrest w1 w3 w5 hc hs hls hd (fun H1 locs1 h1 h2 h3 h4 => k v M H1 locs1 hp ⟨h1, ?_, h2, w4, h3⟩)
  refine w2.kept (fun i q hq => h4 q.1 ((w2 i q hq).lt) (fun j hj => ?_))
  have hq2 := aWl_rest hq
  rw [hq2.2]
  exact fun z => F.2.2.2.2.2.2.2.2.2.2.1 j i hj hq2.1 z.symm
/-- a call of the reference -/
theorem lcM {mid idx : Nat} {as rest : List Value} {P : Value → wM → Prop} (F : LFx p l s m c b L xs D dA adX adM) (hm : mid < mNm) (hV : mV mid ≤ 10) (h2 : 2 ≤ mKd mid) (hC : mC mid = 11) (hlk : Jvm.Cond.methodLink RL idx (mY mid) ∈ gw) (hG : aG mid (aEn mid (.ref 0 :: as) (mkM Mm)) (fun r => ∃ v M, r = (some v, mkM M) ∧ P v M)) (hsl : (aSl (.ref 0 :: as)).length ≤ mL mid) (hna : as.length = mA mid) (hrest : aCat rest ≤ 8)
    (hW : LWd D dA adX adM s Mx Mm H locs) (hc : cells ≤ 600000) (hs : slots ≤ 7302250) (hls : rl.size = 4) (hd : decode code pc = .ok (.invokevirtual idx, 3))
    (k : ∀ (v : Value) (M : wM) (H1 : Heap) (locs1 : List Loc), P v M → LWd D dA adX adM s Mx M H1 locs1 → W p l e room_1 s m #[Value.ref b] below meth c H1 locs1 cells slots Q (F0 m (pc + 3) rl (v :: rest.map (aTv adM)))) : W p l e room_1 s m #[Value.ref b] below meth c H locs cells slots Q (F0 m pc rl ((as.map (aTv adM)).reverse ++ .ref (adM 0) :: rest.map (aTv adM))) := by
  obtain ⟨n, r, hX, v, M, rfl, hp⟩ := hG
  obtain ⟨w1, w2, w3, w4, w5⟩ := hW
  refine lcall F F.2.2.2.2.2.2.2.2.2.1 hm hV h2 hlk hX hsl rfl rfl hna (ci := 60) (by rw [hC]; rfl) hrest w2 w4 w5 hc hs hls hd (fun H1 locs1 h1 h2 h3 h4 => k v M H1 locs1 hp ⟨?_, h1, w3, h2, h3⟩)
  refine w1.kept (fun i q hq => h4 q.1 ((w1 i q hq).lt) (fun j hj => ?_))
  have hq2 := aWl_rest hq
  rw [hq2.2]
  exact F.2.2.2.2.2.2.2.2.2.2.1 i j hq2.1 hj
theorem lPi {mk : wM → aV} {Q : Int32 → wM → Prop} {mid : Nat} {t : aS} (h : aG mid t (aPi mk Q)) : aG mid t (fun r => ∃ v M, r = (some v, mk M) ∧ ∃ x, v = .int x ∧ Q x M) := aG_mono h (fun _ ⟨v, M, e, q⟩ => ⟨.int v, M, e, v, rfl, q⟩)
theorem lPl {mk : wM → aV} {Q : Int64 → wM → Prop} {mid : Nat} {t : aS} (h : aG mid t (aPl mk Q)) : aG mid t (fun r => ∃ v M, r = (some v, mk M) ∧ ∃ x, v = .long x ∧ Q x M) := aG_mono h (fun _ ⟨v, M, e, q⟩ => ⟨.long v, M, e, v, rfl, q⟩)
set_option maxHeartbeats 4000000 in
theorem lc_0 {Inv : wM → wM → Prop} (hI : lawOk Inv) {i : Nat} (F : LFx p l s m c b L xs D dA adX adM) (hL : L ≤ 3072) (hi : i + 6 ≤ L) (hv : Inv Mx Mm) (hW : LWd D dA adX adM s Mx Mm H locs) (hc : cells ≤ 600000) (hs : slots ≤ 7302250) (hl : lv_has rl 4 [(0, .ref b), (1, .ref (adX 0)), (2, .ref (adM 0)), (3, .int (nI i))])
    (k : ∀ (A B : wM) (H1 : Heap) (locs1 : List Loc), Inv A B → LWd D dA adX adM s A B H1 locs1 → W p l e room_1 s m #[Value.ref b] below meth c H1 locs1 cells slots Q (F0 m 1331 rl [])) : W p l e room_1 s m #[Value.ref b] below meth c H locs cells slots Q (F0 m 184 rl []) := by
  obtain ⟨hx, hb, hml, hown, hts, hX, hbl, -⟩ := id F
  have hbA : ¬ lawA s b := Nat.not_le.mpr hbl
  refine lv_aload_n hx hb dL_184 rfl (lv_at hl 1 rfl) ?_
  refine lv_aload_n hx hb dL_185 rfl (lv_at hl 0 rfl) ?_
  refine lv_iload_n hx hb dL_186 rfl (lv_at hl 3 rfl) ?_
  refine lv_iconst (v := nI 1) hx hb dL_187 (by decide) ?_
  refine lv_iadd hx hb dL_188 ?_
  rw [nI_add]
  refine va_sld hx hb hX hbl hbA hW.2.2.2.2 (vp_in_nI (show i + 1 < L by omega) (by omega)) dL_189 ?_
  rw [nI_clamp (show i + 1 < 2 ^ 31 by omega)]
  refine lv_i2l hx hb dL_190 rfl ?_
  refine lv_bipush (v := nI 32) hx hb dL_191 (by decide) ?_
  refine lv_lshl hx hb dL_193 rfl ?_
  refine lv_aload_n hx hb dL_194 rfl (lv_at hl 0 rfl) ?_
  refine lv_iload_n hx hb dL_195 rfl (lv_at hl 3 rfl) ?_
  refine lv_iconst (v := nI 2) hx hb dL_196 (by decide) ?_
  refine lv_iadd hx hb dL_197 ?_
  rw [nI_add]
  refine va_sld hx hb hX hbl hbA hW.2.2.2.2 (vp_in_nI (show i + 2 < L by omega) (by omega)) dL_198 ?_
  rw [nI_clamp (show i + 2 < 2 ^ 31 by omega)]
  refine lv_i2l hx hb dL_199 rfl ?_
  refine lv_ldc2 hx hb hown (hts _ ll_c13) dL_200 ?_
  refine lv_land hx hb dL_203 ?_
  refine lv_lor hx hb dL_204 ?_
  have h0 := hI.1 ((xs (i + 1)).toInt64 <<< ((nI 32).toInt64 &&& 63) ||| (xs (i + 2)).toInt64 &&& 4294967295) _ _ hv
  refine lcX (as := [.long ((xs (i + 1)).toInt64 <<< ((nI 32).toInt64 &&& 63) ||| (xs (i + 2)).toInt64 &&& 4294967295)]) (rest := []) F (by decide) (by decide) (by decide) rfl ll_X11_feed (lPi (wk_X11_feed h0)) (Nat.le_of_ble_eq_true rfl) rfl (by decide) hW hc hs hl.1 dL_205 ?_
  rintro _ A H1 locs1 ⟨r1, rfl, h0⟩ hW1
  refine lv_aload_n hx hb dL_208 rfl (lv_at hl 2 rfl) ?_
  refine lv_aload_n hx hb dL_209 rfl (lv_at hl 0 rfl) ?_
  refine lv_iload_n hx hb dL_210 rfl (lv_at hl 3 rfl) ?_
  refine lv_iconst (v := nI 1) hx hb dL_211 (by decide) ?_
  refine lv_iadd hx hb dL_212 ?_
  rw [nI_add]
  refine va_sld hx hb hX hbl hbA hW1.2.2.2.2 (vp_in_nI (show i + 1 < L by omega) (by omega)) dL_213 ?_
  rw [nI_clamp (show i + 1 < 2 ^ 31 by omega)]
  refine lv_i2l hx hb dL_214 rfl ?_
  refine lv_bipush (v := nI 32) hx hb dL_215 (by decide) ?_
  refine lv_lshl hx hb dL_217 rfl ?_
  refine lv_aload_n hx hb dL_218 rfl (lv_at hl 0 rfl) ?_
  refine lv_iload_n hx hb dL_219 rfl (lv_at hl 3 rfl) ?_
  refine lv_iconst (v := nI 2) hx hb dL_220 (by decide) ?_
  refine lv_iadd hx hb dL_221 ?_
  rw [nI_add]
  refine va_sld hx hb hX hbl hbA hW1.2.2.2.2 (vp_in_nI (show i + 2 < L by omega) (by omega)) dL_222 ?_
  rw [nI_clamp (show i + 2 < 2 ^ 31 by omega)]
  refine lv_i2l hx hb dL_223 rfl ?_
  refine lv_ldc2 hx hb hown (hts _ ll_c13) dL_224 ?_
  refine lv_land hx hb dL_227 ?_
  refine lv_lor hx hb dL_228 ?_
  refine lcM (as := [.long ((xs (i + 1)).toInt64 <<< ((nI 32).toInt64 &&& 63) ||| (xs (i + 2)).toInt64 &&& 4294967295)]) (rest := [.int r1]) F (by decide) (by decide) (by decide) rfl ll_X12_feed (lPi (wk_X12_feed h0)) (Nat.le_of_ble_eq_true rfl) rfl (by simp only [aCat, Value.category]; decide) hW1 hc hs hl.1 dL_229 ?_
  rintro _ B H2 locs2 ⟨r2, rfl, rfl, hv2⟩ hW2
  refine lv_icmp_eq (tgt := 1331) hx hb dL_232 (by decide) (fun _ => ?_) (fun q => absurd rfl q)
  exact k A B H2 locs2 hv2 hW2
set_option maxHeartbeats 4000000 in
theorem lc_1 {Inv : wM → wM → Prop} (hI : lawOk Inv) {i : Nat} (F : LFx p l s m c b L xs D dA adX adM) (hL : L ≤ 3072) (hi : i + 6 ≤ L) (hv : Inv Mx Mm) (hW : LWd D dA adX adM s Mx Mm H locs) (hc : cells ≤ 600000) (hs : slots ≤ 7302250) (hl : lv_has rl 4 [(0, .ref b), (1, .ref (adX 0)), (2, .ref (adM 0)), (3, .int (nI i))])
    (k : ∀ (A B : wM) (H1 : Heap) (locs1 : List Loc), Inv A B → LWd D dA adX adM s A B H1 locs1 → W p l e room_1 s m #[Value.ref b] below meth c H1 locs1 cells slots Q (F0 m 1331 rl [])) : W p l e room_1 s m #[Value.ref b] below meth c H locs cells slots Q (F0 m 237 rl []) := by
  obtain ⟨hx, hb, hml, hown, hts, hX, hbl, -⟩ := id F
  have hbA : ¬ lawA s b := Nat.not_le.mpr hbl
  refine lv_aload_n hx hb dL_237 rfl (lv_at hl 1 rfl) ?_
  refine lv_aload_n hx hb dL_238 rfl (lv_at hl 0 rfl) ?_
  refine lv_iload_n hx hb dL_239 rfl (lv_at hl 3 rfl) ?_
  refine lv_iconst (v := nI 1) hx hb dL_240 (by decide) ?_
  refine lv_iadd hx hb dL_241 ?_
  rw [nI_add]
  refine va_sld hx hb hX hbl hbA hW.2.2.2.2 (vp_in_nI (show i + 1 < L by omega) (by omega)) dL_242 ?_
  rw [nI_clamp (show i + 1 < 2 ^ 31 by omega)]
  have h0 := hI.2.1 (xs (i + 1)) _ _ hv
  refine lcX (as := [.int (xs (i + 1))]) (rest := []) F (by decide) (by decide) (by decide) rfl ll_X11_end (lPi (wk_X11_end h0)) (Nat.le_of_ble_eq_true rfl) rfl (by decide) hW hc hs hl.1 dL_243 ?_
  rintro _ A H1 locs1 ⟨r1, rfl, h0⟩ hW1
  refine lv_aload_n hx hb dL_246 rfl (lv_at hl 2 rfl) ?_
  refine lv_aload_n hx hb dL_247 rfl (lv_at hl 0 rfl) ?_
  refine lv_iload_n hx hb dL_248 rfl (lv_at hl 3 rfl) ?_
  refine lv_iconst (v := nI 1) hx hb dL_249 (by decide) ?_
  refine lv_iadd hx hb dL_250 ?_
  rw [nI_add]
  refine va_sld hx hb hX hbl hbA hW1.2.2.2.2 (vp_in_nI (show i + 1 < L by omega) (by omega)) dL_251 ?_
  rw [nI_clamp (show i + 1 < 2 ^ 31 by omega)]
  refine lcM (as := [.int (xs (i + 1))]) (rest := [.int r1]) F (by decide) (by decide) (by decide) rfl ll_X12_end (lPi (wk_X12_end h0)) (Nat.le_of_ble_eq_true rfl) rfl (by simp only [aCat, Value.category]; decide) hW1 hc hs hl.1 dL_252 ?_
  rintro _ B H2 locs2 ⟨r2, rfl, rfl, hv2⟩ hW2
  refine lv_icmp_eq (tgt := 1331) hx hb dL_255 (by decide) (fun _ => ?_) (fun q => absurd rfl q)
  exact k A B H2 locs2 hv2 hW2
set_option maxHeartbeats 4000000 in
theorem lc_2 {Inv : wM → wM → Prop} (hI : lawOk Inv) {i : Nat} (F : LFx p l s m c b L xs D dA adX adM) (hL : L ≤ 3072) (hi : i + 6 ≤ L) (hv : Inv Mx Mm) (hW : LWd D dA adX adM s Mx Mm H locs) (hc : cells ≤ 600000) (hs : slots ≤ 7302250) (hl : lv_has rl 4 [(0, .ref b), (1, .ref (adX 0)), (2, .ref (adM 0)), (3, .int (nI i))])
    (k : ∀ (A B : wM) (H1 : Heap) (locs1 : List Loc), Inv A B → LWd D dA adX adM s A B H1 locs1 → W p l e room_1 s m #[Value.ref b] below meth c H1 locs1 cells slots Q (F0 m 1331 rl [])) : W p l e room_1 s m #[Value.ref b] below meth c H locs cells slots Q (F0 m 260 rl []) := by
  obtain ⟨hx, hb, hml, hown, hts, hX, hbl, -⟩ := id F
  have hbA : ¬ lawA s b := Nat.not_le.mpr hbl
  refine lv_aload_n hx hb dL_260 rfl (lv_at hl 1 rfl) ?_
  have h0 := hI.2.2.1 _ _ hv
  refine lcX (as := []) (rest := []) F (by decide) (by decide) (by decide) rfl ll_X11_parts (lPi (wk_X11_parts h0)) (Nat.le_of_ble_eq_true rfl) rfl (by decide) hW hc hs hl.1 dL_261 ?_
  rintro _ A H1 locs1 ⟨r1, rfl, h0⟩ hW1
  refine lv_aload_n hx hb dL_264 rfl (lv_at hl 2 rfl) ?_
  refine lcM (as := []) (rest := [.int r1]) F (by decide) (by decide) (by decide) rfl ll_X12_parts (lPi (wk_X12_parts h0)) (Nat.le_of_ble_eq_true rfl) rfl (by simp only [aCat, Value.category]; decide) hW1 hc hs hl.1 dL_265 ?_
  rintro _ B H2 locs2 ⟨r2, rfl, rfl, hv2⟩ hW2
  refine lv_icmp_eq (tgt := 1331) hx hb dL_268 (by decide) (fun _ => ?_) (fun q => absurd rfl q)
  exact k A B H2 locs2 hv2 hW2
set_option maxHeartbeats 4000000 in
theorem lc_3 {Inv : wM → wM → Prop} (hI : lawOk Inv) {i : Nat} (F : LFx p l s m c b L xs D dA adX adM) (hL : L ≤ 3072) (hi : i + 6 ≤ L) (hv : Inv Mx Mm) (hW : LWd D dA adX adM s Mx Mm H locs) (hc : cells ≤ 600000) (hs : slots ≤ 7302250) (hl : lv_has rl 4 [(0, .ref b), (1, .ref (adX 0)), (2, .ref (adM 0)), (3, .int (nI i))])
    (k : ∀ (A B : wM) (H1 : Heap) (locs1 : List Loc), Inv A B → LWd D dA adX adM s A B H1 locs1 → W p l e room_1 s m #[Value.ref b] below meth c H1 locs1 cells slots Q (F0 m 1331 rl [])) : W p l e room_1 s m #[Value.ref b] below meth c H locs cells slots Q (F0 m 273 rl []) := by
  obtain ⟨hx, hb, hml, hown, hts, hX, hbl, -⟩ := id F
  have hbA : ¬ lawA s b := Nat.not_le.mpr hbl
  refine lv_aload_n hx hb dL_273 rfl (lv_at hl 1 rfl) ?_
  have h0 := hI.2.2.2.1 _ _ hv
  refine lcX (as := []) (rest := []) F (by decide) (by decide) (by decide) rfl ll_X11_fault (lPi (wk_X11_fault h0)) (Nat.le_of_ble_eq_true rfl) rfl (by decide) hW hc hs hl.1 dL_274 ?_
  rintro _ A H1 locs1 ⟨r1, rfl, h0⟩ hW1
  refine lv_aload_n hx hb dL_277 rfl (lv_at hl 2 rfl) ?_
  refine lcM (as := []) (rest := [.int r1]) F (by decide) (by decide) (by decide) rfl ll_X12_fault (lPi (wk_X12_fault h0)) (Nat.le_of_ble_eq_true rfl) rfl (by simp only [aCat, Value.category]; decide) hW1 hc hs hl.1 dL_278 ?_
  rintro _ B H2 locs2 ⟨r2, rfl, rfl, hv2⟩ hW2
  refine lv_icmp_eq (tgt := 1331) hx hb dL_281 (by decide) (fun _ => ?_) (fun q => absurd rfl q)
  exact k A B H2 locs2 hv2 hW2
set_option maxHeartbeats 4000000 in
theorem lc_4 {Inv : wM → wM → Prop} (hI : lawOk Inv) {i : Nat} (F : LFx p l s m c b L xs D dA adX adM) (hL : L ≤ 3072) (hi : i + 6 ≤ L) (hv : Inv Mx Mm) (hW : LWd D dA adX adM s Mx Mm H locs) (hc : cells ≤ 600000) (hs : slots ≤ 7302250) (hl : lv_has rl 4 [(0, .ref b), (1, .ref (adX 0)), (2, .ref (adM 0)), (3, .int (nI i))])
    (k : ∀ (A B : wM) (H1 : Heap) (locs1 : List Loc), Inv A B → LWd D dA adX adM s A B H1 locs1 → W p l e room_1 s m #[Value.ref b] below meth c H1 locs1 cells slots Q (F0 m 1331 rl [])) : W p l e room_1 s m #[Value.ref b] below meth c H locs cells slots Q (F0 m 286 rl []) := by
  obtain ⟨hx, hb, hml, hown, hts, hX, hbl, -⟩ := id F
  have hbA : ¬ lawA s b := Nat.not_le.mpr hbl
  refine lv_aload_n hx hb dL_286 rfl (lv_at hl 1 rfl) ?_
  refine lv_aload_n hx hb dL_287 rfl (lv_at hl 0 rfl) ?_
  refine lv_iload_n hx hb dL_288 rfl (lv_at hl 3 rfl) ?_
  refine lv_iconst (v := nI 1) hx hb dL_289 (by decide) ?_
  refine lv_iadd hx hb dL_290 ?_
  rw [nI_add]
  refine va_sld hx hb hX hbl hbA hW.2.2.2.2 (vp_in_nI (show i + 1 < L by omega) (by omega)) dL_291 ?_
  rw [nI_clamp (show i + 1 < 2 ^ 31 by omega)]
  refine lv_aload_n hx hb dL_292 rfl (lv_at hl 0 rfl) ?_
  refine lv_iload_n hx hb dL_293 rfl (lv_at hl 3 rfl) ?_
  refine lv_iconst (v := nI 2) hx hb dL_294 (by decide) ?_
  refine lv_iadd hx hb dL_295 ?_
  rw [nI_add]
  refine va_sld hx hb hX hbl hbA hW.2.2.2.2 (vp_in_nI (show i + 2 < L by omega) (by omega)) dL_296 ?_
  rw [nI_clamp (show i + 2 < 2 ^ 31 by omega)]
  have h0 := hI.2.2.2.2.1 (xs (i + 1)) (xs (i + 2)) _ _ hv
  refine lcX (as := [.int (xs (i + 1)), .int (xs (i + 2))]) (rest := []) F (by decide) (by decide) (by decide) rfl ll_X11_part (lPi (wk_X11_part h0)) (Nat.le_of_ble_eq_true rfl) rfl (by decide) hW hc hs hl.1 dL_297 ?_
  rintro _ A H1 locs1 ⟨r1, rfl, h0⟩ hW1
  refine lv_aload_n hx hb dL_300 rfl (lv_at hl 2 rfl) ?_
  refine lv_aload_n hx hb dL_301 rfl (lv_at hl 0 rfl) ?_
  refine lv_iload_n hx hb dL_302 rfl (lv_at hl 3 rfl) ?_
  refine lv_iconst (v := nI 1) hx hb dL_303 (by decide) ?_
  refine lv_iadd hx hb dL_304 ?_
  rw [nI_add]
  refine va_sld hx hb hX hbl hbA hW1.2.2.2.2 (vp_in_nI (show i + 1 < L by omega) (by omega)) dL_305 ?_
  rw [nI_clamp (show i + 1 < 2 ^ 31 by omega)]
  refine lv_aload_n hx hb dL_306 rfl (lv_at hl 0 rfl) ?_
  refine lv_iload_n hx hb dL_307 rfl (lv_at hl 3 rfl) ?_
  refine lv_iconst (v := nI 2) hx hb dL_308 (by decide) ?_
  refine lv_iadd hx hb dL_309 ?_
  rw [nI_add]
  refine va_sld hx hb hX hbl hbA hW1.2.2.2.2 (vp_in_nI (show i + 2 < L by omega) (by omega)) dL_310 ?_
  rw [nI_clamp (show i + 2 < 2 ^ 31 by omega)]
  refine lcM (as := [.int (xs (i + 1)), .int (xs (i + 2))]) (rest := [.int r1]) F (by decide) (by decide) (by decide) rfl ll_X12_part (lPi (wk_X12_part h0)) (Nat.le_of_ble_eq_true rfl) rfl (by simp only [aCat, Value.category]; decide) hW1 hc hs hl.1 dL_311 ?_
  rintro _ B H2 locs2 ⟨r2, rfl, rfl, hv2⟩ hW2
  refine lv_icmp_eq (tgt := 1331) hx hb dL_314 (by decide) (fun _ => ?_) (fun q => absurd rfl q)
  exact k A B H2 locs2 hv2 hW2
set_option maxHeartbeats 4000000 in
theorem lc_5 {Inv : wM → wM → Prop} (hI : lawOk Inv) {i : Nat} (F : LFx p l s m c b L xs D dA adX adM) (hL : L ≤ 3072) (hi : i + 6 ≤ L) (hv : Inv Mx Mm) (hW : LWd D dA adX adM s Mx Mm H locs) (hc : cells ≤ 600000) (hs : slots ≤ 7302250) (hl : lv_has rl 4 [(0, .ref b), (1, .ref (adX 0)), (2, .ref (adM 0)), (3, .int (nI i))])
    (k : ∀ (A B : wM) (H1 : Heap) (locs1 : List Loc), Inv A B → LWd D dA adX adM s A B H1 locs1 → W p l e room_1 s m #[Value.ref b] below meth c H1 locs1 cells slots Q (F0 m 1331 rl [])) : W p l e room_1 s m #[Value.ref b] below meth c H locs cells slots Q (F0 m 319 rl []) := by
  obtain ⟨hx, hb, hml, hown, hts, hX, hbl, -⟩ := id F
  have hbA : ¬ lawA s b := Nat.not_le.mpr hbl
  refine lv_aload_n hx hb dL_319 rfl (lv_at hl 1 rfl) ?_
  refine lv_aload_n hx hb dL_320 rfl (lv_at hl 0 rfl) ?_
  refine lv_iload_n hx hb dL_321 rfl (lv_at hl 3 rfl) ?_
  refine lv_iconst (v := nI 1) hx hb dL_322 (by decide) ?_
  refine lv_iadd hx hb dL_323 ?_
  rw [nI_add]
  refine va_sld hx hb hX hbl hbA hW.2.2.2.2 (vp_in_nI (show i + 1 < L by omega) (by omega)) dL_324 ?_
  rw [nI_clamp (show i + 1 < 2 ^ 31 by omega)]
  have h0 := hI.2.2.2.2.2.1 (xs (i + 1)) _ _ hv
  refine lcX (as := [.int (xs (i + 1))]) (rest := []) F (by decide) (by decide) (by decide) rfl ll_X11_chip (lPi (wk_X11_chip h0)) (Nat.le_of_ble_eq_true rfl) rfl (by decide) hW hc hs hl.1 dL_325 ?_
  rintro _ A H1 locs1 ⟨r1, rfl, h0⟩ hW1
  refine lv_aload_n hx hb dL_328 rfl (lv_at hl 2 rfl) ?_
  refine lv_aload_n hx hb dL_329 rfl (lv_at hl 0 rfl) ?_
  refine lv_iload_n hx hb dL_330 rfl (lv_at hl 3 rfl) ?_
  refine lv_iconst (v := nI 1) hx hb dL_331 (by decide) ?_
  refine lv_iadd hx hb dL_332 ?_
  rw [nI_add]
  refine va_sld hx hb hX hbl hbA hW1.2.2.2.2 (vp_in_nI (show i + 1 < L by omega) (by omega)) dL_333 ?_
  rw [nI_clamp (show i + 1 < 2 ^ 31 by omega)]
  refine lcM (as := [.int (xs (i + 1))]) (rest := [.int r1]) F (by decide) (by decide) (by decide) rfl ll_X12_chip (lPi (wk_X12_chip h0)) (Nat.le_of_ble_eq_true rfl) rfl (by simp only [aCat, Value.category]; decide) hW1 hc hs hl.1 dL_334 ?_
  rintro _ B H2 locs2 ⟨r2, rfl, rfl, hv2⟩ hW2
  refine lv_icmp_eq (tgt := 1331) hx hb dL_337 (by decide) (fun _ => ?_) (fun q => absurd rfl q)
  exact k A B H2 locs2 hv2 hW2
set_option maxHeartbeats 4000000 in
theorem lc_6 {Inv : wM → wM → Prop} (hI : lawOk Inv) {i : Nat} (F : LFx p l s m c b L xs D dA adX adM) (hL : L ≤ 3072) (hi : i + 6 ≤ L) (hv : Inv Mx Mm) (hW : LWd D dA adX adM s Mx Mm H locs) (hc : cells ≤ 600000) (hs : slots ≤ 7302250) (hl : lv_has rl 4 [(0, .ref b), (1, .ref (adX 0)), (2, .ref (adM 0)), (3, .int (nI i))])
    (k : ∀ (A B : wM) (H1 : Heap) (locs1 : List Loc), Inv A B → LWd D dA adX adM s A B H1 locs1 → W p l e room_1 s m #[Value.ref b] below meth c H1 locs1 cells slots Q (F0 m 1331 rl [])) : W p l e room_1 s m #[Value.ref b] below meth c H locs cells slots Q (F0 m 342 rl []) := by
  obtain ⟨hx, hb, hml, hown, hts, hX, hbl, -⟩ := id F
  have hbA : ¬ lawA s b := Nat.not_le.mpr hbl
  refine lv_aload_n hx hb dL_342 rfl (lv_at hl 1 rfl) ?_
  refine lv_aload_n hx hb dL_343 rfl (lv_at hl 0 rfl) ?_
  refine lv_iload_n hx hb dL_344 rfl (lv_at hl 3 rfl) ?_
  refine lv_iconst (v := nI 1) hx hb dL_345 (by decide) ?_
  refine lv_iadd hx hb dL_346 ?_
  rw [nI_add]
  refine va_sld hx hb hX hbl hbA hW.2.2.2.2 (vp_in_nI (show i + 1 < L by omega) (by omega)) dL_347 ?_
  rw [nI_clamp (show i + 1 < 2 ^ 31 by omega)]
  refine lv_aload_n hx hb dL_348 rfl (lv_at hl 0 rfl) ?_
  refine lv_iload_n hx hb dL_349 rfl (lv_at hl 3 rfl) ?_
  refine lv_iconst (v := nI 2) hx hb dL_350 (by decide) ?_
  refine lv_iadd hx hb dL_351 ?_
  rw [nI_add]
  refine va_sld hx hb hX hbl hbA hW.2.2.2.2 (vp_in_nI (show i + 2 < L by omega) (by omega)) dL_352 ?_
  rw [nI_clamp (show i + 2 < 2 ^ 31 by omega)]
  have h0 := hI.2.2.2.2.2.2.1 (xs (i + 1)) (xs (i + 2)) _ _ hv
  refine lcX (as := [.int (xs (i + 1)), .int (xs (i + 2))]) (rest := []) F (by decide) (by decide) (by decide) rfl ll_X11_chipOf (lPi (wk_X11_chipOf h0)) (Nat.le_of_ble_eq_true rfl) rfl (by decide) hW hc hs hl.1 dL_353 ?_
  rintro _ A H1 locs1 ⟨r1, rfl, h0⟩ hW1
  refine lv_aload_n hx hb dL_356 rfl (lv_at hl 2 rfl) ?_
  refine lv_aload_n hx hb dL_357 rfl (lv_at hl 0 rfl) ?_
  refine lv_iload_n hx hb dL_358 rfl (lv_at hl 3 rfl) ?_
  refine lv_iconst (v := nI 1) hx hb dL_359 (by decide) ?_
  refine lv_iadd hx hb dL_360 ?_
  rw [nI_add]
  refine va_sld hx hb hX hbl hbA hW1.2.2.2.2 (vp_in_nI (show i + 1 < L by omega) (by omega)) dL_361 ?_
  rw [nI_clamp (show i + 1 < 2 ^ 31 by omega)]
  refine lv_aload_n hx hb dL_362 rfl (lv_at hl 0 rfl) ?_
  refine lv_iload_n hx hb dL_363 rfl (lv_at hl 3 rfl) ?_
  refine lv_iconst (v := nI 2) hx hb dL_364 (by decide) ?_
  refine lv_iadd hx hb dL_365 ?_
  rw [nI_add]
  refine va_sld hx hb hX hbl hbA hW1.2.2.2.2 (vp_in_nI (show i + 2 < L by omega) (by omega)) dL_366 ?_
  rw [nI_clamp (show i + 2 < 2 ^ 31 by omega)]
  refine lcM (as := [.int (xs (i + 1)), .int (xs (i + 2))]) (rest := [.int r1]) F (by decide) (by decide) (by decide) rfl ll_X12_chipOf (lPi (wk_X12_chipOf h0)) (Nat.le_of_ble_eq_true rfl) rfl (by simp only [aCat, Value.category]; decide) hW1 hc hs hl.1 dL_367 ?_
  rintro _ B H2 locs2 ⟨r2, rfl, rfl, hv2⟩ hW2
  refine lv_icmp_eq (tgt := 1331) hx hb dL_370 (by decide) (fun _ => ?_) (fun q => absurd rfl q)
  exact k A B H2 locs2 hv2 hW2
set_option maxHeartbeats 4000000 in
theorem lc_7 {Inv : wM → wM → Prop} (hI : lawOk Inv) {i : Nat} (F : LFx p l s m c b L xs D dA adX adM) (hL : L ≤ 3072) (hi : i + 6 ≤ L) (hv : Inv Mx Mm) (hW : LWd D dA adX adM s Mx Mm H locs) (hc : cells ≤ 600000) (hs : slots ≤ 7302250) (hl : lv_has rl 4 [(0, .ref b), (1, .ref (adX 0)), (2, .ref (adM 0)), (3, .int (nI i))])
    (k : ∀ (A B : wM) (H1 : Heap) (locs1 : List Loc), Inv A B → LWd D dA adX adM s A B H1 locs1 → W p l e room_1 s m #[Value.ref b] below meth c H1 locs1 cells slots Q (F0 m 1331 rl [])) : W p l e room_1 s m #[Value.ref b] below meth c H locs cells slots Q (F0 m 375 rl []) := by
  obtain ⟨hx, hb, hml, hown, hts, hX, hbl, -⟩ := id F
  have hbA : ¬ lawA s b := Nat.not_le.mpr hbl
  refine lv_aload_n hx hb dL_375 rfl (lv_at hl 1 rfl) ?_
  refine lv_aload_n hx hb dL_376 rfl (lv_at hl 0 rfl) ?_
  refine lv_iload_n hx hb dL_377 rfl (lv_at hl 3 rfl) ?_
  refine lv_iconst (v := nI 1) hx hb dL_378 (by decide) ?_
  refine lv_iadd hx hb dL_379 ?_
  rw [nI_add]
  refine va_sld hx hb hX hbl hbA hW.2.2.2.2 (vp_in_nI (show i + 1 < L by omega) (by omega)) dL_380 ?_
  rw [nI_clamp (show i + 1 < 2 ^ 31 by omega)]
  refine lv_aload_n hx hb dL_381 rfl (lv_at hl 0 rfl) ?_
  refine lv_iload_n hx hb dL_382 rfl (lv_at hl 3 rfl) ?_
  refine lv_iconst (v := nI 2) hx hb dL_383 (by decide) ?_
  refine lv_iadd hx hb dL_384 ?_
  rw [nI_add]
  refine va_sld hx hb hX hbl hbA hW.2.2.2.2 (vp_in_nI (show i + 2 < L by omega) (by omega)) dL_385 ?_
  rw [nI_clamp (show i + 2 < 2 ^ 31 by omega)]
  have h0 := hI.2.2.2.2.2.2.2.1 (xs (i + 1)) (xs (i + 2)) _ _ hv
  refine lcX (as := [.int (xs (i + 1)), .int (xs (i + 2))]) (rest := []) F (by decide) (by decide) (by decide) rfl ll_X11_cut (lPi (wk_X11_cut h0)) (Nat.le_of_ble_eq_true rfl) rfl (by decide) hW hc hs hl.1 dL_386 ?_
  rintro _ A H1 locs1 ⟨r1, rfl, h0⟩ hW1
  refine lv_aload_n hx hb dL_389 rfl (lv_at hl 2 rfl) ?_
  refine lv_aload_n hx hb dL_390 rfl (lv_at hl 0 rfl) ?_
  refine lv_iload_n hx hb dL_391 rfl (lv_at hl 3 rfl) ?_
  refine lv_iconst (v := nI 1) hx hb dL_392 (by decide) ?_
  refine lv_iadd hx hb dL_393 ?_
  rw [nI_add]
  refine va_sld hx hb hX hbl hbA hW1.2.2.2.2 (vp_in_nI (show i + 1 < L by omega) (by omega)) dL_394 ?_
  rw [nI_clamp (show i + 1 < 2 ^ 31 by omega)]
  refine lv_aload_n hx hb dL_395 rfl (lv_at hl 0 rfl) ?_
  refine lv_iload_n hx hb dL_396 rfl (lv_at hl 3 rfl) ?_
  refine lv_iconst (v := nI 2) hx hb dL_397 (by decide) ?_
  refine lv_iadd hx hb dL_398 ?_
  rw [nI_add]
  refine va_sld hx hb hX hbl hbA hW1.2.2.2.2 (vp_in_nI (show i + 2 < L by omega) (by omega)) dL_399 ?_
  rw [nI_clamp (show i + 2 < 2 ^ 31 by omega)]
  refine lcM (as := [.int (xs (i + 1)), .int (xs (i + 2))]) (rest := [.int r1]) F (by decide) (by decide) (by decide) rfl ll_X12_cut (lPi (wk_X12_cut h0)) (Nat.le_of_ble_eq_true rfl) rfl (by simp only [aCat, Value.category]; decide) hW1 hc hs hl.1 dL_400 ?_
  rintro _ B H2 locs2 ⟨r2, rfl, rfl, hv2⟩ hW2
  refine lv_icmp_eq (tgt := 1331) hx hb dL_403 (by decide) (fun _ => ?_) (fun q => absurd rfl q)
  exact k A B H2 locs2 hv2 hW2
set_option maxHeartbeats 4000000 in
theorem lc_8 {Inv : wM → wM → Prop} (hI : lawOk Inv) {i : Nat} (F : LFx p l s m c b L xs D dA adX adM) (hL : L ≤ 3072) (hi : i + 6 ≤ L) (hv : Inv Mx Mm) (hW : LWd D dA adX adM s Mx Mm H locs) (hc : cells ≤ 600000) (hs : slots ≤ 7302250) (hl : lv_has rl 4 [(0, .ref b), (1, .ref (adX 0)), (2, .ref (adM 0)), (3, .int (nI i))])
    (k : ∀ (A B : wM) (H1 : Heap) (locs1 : List Loc), Inv A B → LWd D dA adX adM s A B H1 locs1 → W p l e room_1 s m #[Value.ref b] below meth c H1 locs1 cells slots Q (F0 m 1331 rl [])) : W p l e room_1 s m #[Value.ref b] below meth c H locs cells slots Q (F0 m 408 rl []) := by
  obtain ⟨hx, hb, hml, hown, hts, hX, hbl, -⟩ := id F
  have hbA : ¬ lawA s b := Nat.not_le.mpr hbl
  by_cases hz1 : xs (i + 1) = 0
  ·
    by_cases hz2 : xs (i + 2) = 0
    ·
      refine lv_aload_n hx hb dL_408 rfl (lv_at hl 1 rfl) ?_
      refine lv_aload_n hx hb dL_409 rfl (lv_at hl 0 rfl) ?_
      refine lv_iload_n hx hb dL_410 rfl (lv_at hl 3 rfl) ?_
      refine lv_iconst (v := nI 1) hx hb dL_411 (by decide) ?_
      refine lv_iadd hx hb dL_412 ?_
      rw [nI_add]
      refine va_sld hx hb hX hbl hbA hW.2.2.2.2 (vp_in_nI (show i + 1 < L by omega) (by omega)) dL_413 ?_
      rw [nI_clamp (show i + 1 < 2 ^ 31 by omega)]
      refine lv_if_eq (tgt := 421) hx hb dL_414 (by decide) (fun _ => ?_) (fun q => absurd hz1 q)
      refine lv_iconst (v := nI 0) hx hb dL_421 (by decide) ?_
      refine lv_aload_n hx hb dL_422 rfl (lv_at hl 0 rfl) ?_
      refine lv_iload_n hx hb dL_423 rfl (lv_at hl 3 rfl) ?_
      refine lv_iconst (v := nI 2) hx hb dL_424 (by decide) ?_
      refine lv_iadd hx hb dL_425 ?_
      rw [nI_add]
      refine va_sld hx hb hX hbl hbA hW.2.2.2.2 (vp_in_nI (show i + 2 < L by omega) (by omega)) dL_426 ?_
      rw [nI_clamp (show i + 2 < 2 ^ 31 by omega)]
      refine lv_if_eq (tgt := 434) hx hb dL_427 (by decide) (fun _ => ?_) (fun q => absurd hz2 q)
      refine lv_iconst (v := nI 0) hx hb dL_434 (by decide) ?_
      have h0 := hI.2.2.2.2.2.2.2.2.1 (nI 0) (nI 0) _ _ hv (Or.inl rfl) (Or.inl rfl)
      refine lcX (as := [.int (nI 0), .int (nI 0)]) (rest := []) F (by decide) (by decide) (by decide) rfl ll_X11_tick (lPi (wk_X11_tick h0)) (Nat.le_of_ble_eq_true rfl) rfl (by decide) hW hc hs hl.1 dL_435 ?_
      rintro _ A H1 locs1 ⟨r1, rfl, h0⟩ hW1
      refine lv_aload_n hx hb dL_438 rfl (lv_at hl 2 rfl) ?_
      refine lv_aload_n hx hb dL_439 rfl (lv_at hl 0 rfl) ?_
      refine lv_iload_n hx hb dL_440 rfl (lv_at hl 3 rfl) ?_
      refine lv_iconst (v := nI 1) hx hb dL_441 (by decide) ?_
      refine lv_iadd hx hb dL_442 ?_
      rw [nI_add]
      refine va_sld hx hb hX hbl hbA hW1.2.2.2.2 (vp_in_nI (show i + 1 < L by omega) (by omega)) dL_443 ?_
      rw [nI_clamp (show i + 1 < 2 ^ 31 by omega)]
      refine lv_if_eq (tgt := 451) hx hb dL_444 (by decide) (fun _ => ?_) (fun q => absurd hz1 q)
      refine lv_iconst (v := nI 0) hx hb dL_451 (by decide) ?_
      refine lv_aload_n hx hb dL_452 rfl (lv_at hl 0 rfl) ?_
      refine lv_iload_n hx hb dL_453 rfl (lv_at hl 3 rfl) ?_
      refine lv_iconst (v := nI 2) hx hb dL_454 (by decide) ?_
      refine lv_iadd hx hb dL_455 ?_
      rw [nI_add]
      refine va_sld hx hb hX hbl hbA hW1.2.2.2.2 (vp_in_nI (show i + 2 < L by omega) (by omega)) dL_456 ?_
      rw [nI_clamp (show i + 2 < 2 ^ 31 by omega)]
      refine lv_if_eq (tgt := 464) hx hb dL_457 (by decide) (fun _ => ?_) (fun q => absurd hz2 q)
      refine lv_iconst (v := nI 0) hx hb dL_464 (by decide) ?_
      refine lcM (as := [.int (nI 0), .int (nI 0)]) (rest := [.int r1]) F (by decide) (by decide) (by decide) rfl ll_X12_tick (lPi (wk_X12_tick h0)) (Nat.le_of_ble_eq_true rfl) rfl (by simp only [aCat, Value.category]; decide) hW1 hc hs hl.1 dL_465 ?_
      rintro _ B H2 locs2 ⟨r2, rfl, rfl, hv2⟩ hW2
      refine lv_icmp_eq (tgt := 1331) hx hb dL_468 (by decide) (fun _ => ?_) (fun q => absurd rfl q)
      exact k A B H2 locs2 hv2 hW2
    ·
      refine lv_aload_n hx hb dL_408 rfl (lv_at hl 1 rfl) ?_
      refine lv_aload_n hx hb dL_409 rfl (lv_at hl 0 rfl) ?_
      refine lv_iload_n hx hb dL_410 rfl (lv_at hl 3 rfl) ?_
      refine lv_iconst (v := nI 1) hx hb dL_411 (by decide) ?_
      refine lv_iadd hx hb dL_412 ?_
      rw [nI_add]
      refine va_sld hx hb hX hbl hbA hW.2.2.2.2 (vp_in_nI (show i + 1 < L by omega) (by omega)) dL_413 ?_
      rw [nI_clamp (show i + 1 < 2 ^ 31 by omega)]
      refine lv_if_eq (tgt := 421) hx hb dL_414 (by decide) (fun _ => ?_) (fun q => absurd hz1 q)
      refine lv_iconst (v := nI 0) hx hb dL_421 (by decide) ?_
      refine lv_aload_n hx hb dL_422 rfl (lv_at hl 0 rfl) ?_
      refine lv_iload_n hx hb dL_423 rfl (lv_at hl 3 rfl) ?_
      refine lv_iconst (v := nI 2) hx hb dL_424 (by decide) ?_
      refine lv_iadd hx hb dL_425 ?_
      rw [nI_add]
      refine va_sld hx hb hX hbl hbA hW.2.2.2.2 (vp_in_nI (show i + 2 < L by omega) (by omega)) dL_426 ?_
      rw [nI_clamp (show i + 2 < 2 ^ 31 by omega)]
      refine lv_if_eq (tgt := 434) hx hb dL_427 (by decide) (fun q => absurd q hz2) (fun _ => ?_)
      refine lv_iconst (v := nI 1) hx hb dL_430 (by decide) ?_
      refine lv_goto (tgt := 435) hx hb dL_431 (by decide) ?_
      have h0 := hI.2.2.2.2.2.2.2.2.1 (nI 0) (nI 1) _ _ hv (Or.inl rfl) (Or.inr rfl)
      refine lcX (as := [.int (nI 0), .int (nI 1)]) (rest := []) F (by decide) (by decide) (by decide) rfl ll_X11_tick (lPi (wk_X11_tick h0)) (Nat.le_of_ble_eq_true rfl) rfl (by decide) hW hc hs hl.1 dL_435 ?_
      rintro _ A H1 locs1 ⟨r1, rfl, h0⟩ hW1
      refine lv_aload_n hx hb dL_438 rfl (lv_at hl 2 rfl) ?_
      refine lv_aload_n hx hb dL_439 rfl (lv_at hl 0 rfl) ?_
      refine lv_iload_n hx hb dL_440 rfl (lv_at hl 3 rfl) ?_
      refine lv_iconst (v := nI 1) hx hb dL_441 (by decide) ?_
      refine lv_iadd hx hb dL_442 ?_
      rw [nI_add]
      refine va_sld hx hb hX hbl hbA hW1.2.2.2.2 (vp_in_nI (show i + 1 < L by omega) (by omega)) dL_443 ?_
      rw [nI_clamp (show i + 1 < 2 ^ 31 by omega)]
      refine lv_if_eq (tgt := 451) hx hb dL_444 (by decide) (fun _ => ?_) (fun q => absurd hz1 q)
      refine lv_iconst (v := nI 0) hx hb dL_451 (by decide) ?_
      refine lv_aload_n hx hb dL_452 rfl (lv_at hl 0 rfl) ?_
      refine lv_iload_n hx hb dL_453 rfl (lv_at hl 3 rfl) ?_
      refine lv_iconst (v := nI 2) hx hb dL_454 (by decide) ?_
      refine lv_iadd hx hb dL_455 ?_
      rw [nI_add]
      refine va_sld hx hb hX hbl hbA hW1.2.2.2.2 (vp_in_nI (show i + 2 < L by omega) (by omega)) dL_456 ?_
      rw [nI_clamp (show i + 2 < 2 ^ 31 by omega)]
      refine lv_if_eq (tgt := 464) hx hb dL_457 (by decide) (fun q => absurd q hz2) (fun _ => ?_)
      refine lv_iconst (v := nI 1) hx hb dL_460 (by decide) ?_
      refine lv_goto (tgt := 465) hx hb dL_461 (by decide) ?_
      refine lcM (as := [.int (nI 0), .int (nI 1)]) (rest := [.int r1]) F (by decide) (by decide) (by decide) rfl ll_X12_tick (lPi (wk_X12_tick h0)) (Nat.le_of_ble_eq_true rfl) rfl (by simp only [aCat, Value.category]; decide) hW1 hc hs hl.1 dL_465 ?_
      rintro _ B H2 locs2 ⟨r2, rfl, rfl, hv2⟩ hW2
      refine lv_icmp_eq (tgt := 1331) hx hb dL_468 (by decide) (fun _ => ?_) (fun q => absurd rfl q)
      exact k A B H2 locs2 hv2 hW2
  ·
    by_cases hz2 : xs (i + 2) = 0
    ·
      refine lv_aload_n hx hb dL_408 rfl (lv_at hl 1 rfl) ?_
      refine lv_aload_n hx hb dL_409 rfl (lv_at hl 0 rfl) ?_
      refine lv_iload_n hx hb dL_410 rfl (lv_at hl 3 rfl) ?_
      refine lv_iconst (v := nI 1) hx hb dL_411 (by decide) ?_
      refine lv_iadd hx hb dL_412 ?_
      rw [nI_add]
      refine va_sld hx hb hX hbl hbA hW.2.2.2.2 (vp_in_nI (show i + 1 < L by omega) (by omega)) dL_413 ?_
      rw [nI_clamp (show i + 1 < 2 ^ 31 by omega)]
      refine lv_if_eq (tgt := 421) hx hb dL_414 (by decide) (fun q => absurd q hz1) (fun _ => ?_)
      refine lv_iconst (v := nI 1) hx hb dL_417 (by decide) ?_
      refine lv_goto (tgt := 422) hx hb dL_418 (by decide) ?_
      refine lv_aload_n hx hb dL_422 rfl (lv_at hl 0 rfl) ?_
      refine lv_iload_n hx hb dL_423 rfl (lv_at hl 3 rfl) ?_
      refine lv_iconst (v := nI 2) hx hb dL_424 (by decide) ?_
      refine lv_iadd hx hb dL_425 ?_
      rw [nI_add]
      refine va_sld hx hb hX hbl hbA hW.2.2.2.2 (vp_in_nI (show i + 2 < L by omega) (by omega)) dL_426 ?_
      rw [nI_clamp (show i + 2 < 2 ^ 31 by omega)]
      refine lv_if_eq (tgt := 434) hx hb dL_427 (by decide) (fun _ => ?_) (fun q => absurd hz2 q)
      refine lv_iconst (v := nI 0) hx hb dL_434 (by decide) ?_
      have h0 := hI.2.2.2.2.2.2.2.2.1 (nI 1) (nI 0) _ _ hv (Or.inr rfl) (Or.inl rfl)
      refine lcX (as := [.int (nI 1), .int (nI 0)]) (rest := []) F (by decide) (by decide) (by decide) rfl ll_X11_tick (lPi (wk_X11_tick h0)) (Nat.le_of_ble_eq_true rfl) rfl (by decide) hW hc hs hl.1 dL_435 ?_
      rintro _ A H1 locs1 ⟨r1, rfl, h0⟩ hW1
      refine lv_aload_n hx hb dL_438 rfl (lv_at hl 2 rfl) ?_
      refine lv_aload_n hx hb dL_439 rfl (lv_at hl 0 rfl) ?_
      refine lv_iload_n hx hb dL_440 rfl (lv_at hl 3 rfl) ?_
      refine lv_iconst (v := nI 1) hx hb dL_441 (by decide) ?_
      refine lv_iadd hx hb dL_442 ?_
      rw [nI_add]
      refine va_sld hx hb hX hbl hbA hW1.2.2.2.2 (vp_in_nI (show i + 1 < L by omega) (by omega)) dL_443 ?_
      rw [nI_clamp (show i + 1 < 2 ^ 31 by omega)]
      refine lv_if_eq (tgt := 451) hx hb dL_444 (by decide) (fun q => absurd q hz1) (fun _ => ?_)
      refine lv_iconst (v := nI 1) hx hb dL_447 (by decide) ?_
      refine lv_goto (tgt := 452) hx hb dL_448 (by decide) ?_
      refine lv_aload_n hx hb dL_452 rfl (lv_at hl 0 rfl) ?_
      refine lv_iload_n hx hb dL_453 rfl (lv_at hl 3 rfl) ?_
      refine lv_iconst (v := nI 2) hx hb dL_454 (by decide) ?_
      refine lv_iadd hx hb dL_455 ?_
      rw [nI_add]
      refine va_sld hx hb hX hbl hbA hW1.2.2.2.2 (vp_in_nI (show i + 2 < L by omega) (by omega)) dL_456 ?_
      rw [nI_clamp (show i + 2 < 2 ^ 31 by omega)]
      refine lv_if_eq (tgt := 464) hx hb dL_457 (by decide) (fun _ => ?_) (fun q => absurd hz2 q)
      refine lv_iconst (v := nI 0) hx hb dL_464 (by decide) ?_
      refine lcM (as := [.int (nI 1), .int (nI 0)]) (rest := [.int r1]) F (by decide) (by decide) (by decide) rfl ll_X12_tick (lPi (wk_X12_tick h0)) (Nat.le_of_ble_eq_true rfl) rfl (by simp only [aCat, Value.category]; decide) hW1 hc hs hl.1 dL_465 ?_
      rintro _ B H2 locs2 ⟨r2, rfl, rfl, hv2⟩ hW2
      refine lv_icmp_eq (tgt := 1331) hx hb dL_468 (by decide) (fun _ => ?_) (fun q => absurd rfl q)
      exact k A B H2 locs2 hv2 hW2
    ·
      refine lv_aload_n hx hb dL_408 rfl (lv_at hl 1 rfl) ?_
      refine lv_aload_n hx hb dL_409 rfl (lv_at hl 0 rfl) ?_
      refine lv_iload_n hx hb dL_410 rfl (lv_at hl 3 rfl) ?_
      refine lv_iconst (v := nI 1) hx hb dL_411 (by decide) ?_
      refine lv_iadd hx hb dL_412 ?_
      rw [nI_add]
      refine va_sld hx hb hX hbl hbA hW.2.2.2.2 (vp_in_nI (show i + 1 < L by omega) (by omega)) dL_413 ?_
      rw [nI_clamp (show i + 1 < 2 ^ 31 by omega)]
      refine lv_if_eq (tgt := 421) hx hb dL_414 (by decide) (fun q => absurd q hz1) (fun _ => ?_)
      refine lv_iconst (v := nI 1) hx hb dL_417 (by decide) ?_
      refine lv_goto (tgt := 422) hx hb dL_418 (by decide) ?_
      refine lv_aload_n hx hb dL_422 rfl (lv_at hl 0 rfl) ?_
      refine lv_iload_n hx hb dL_423 rfl (lv_at hl 3 rfl) ?_
      refine lv_iconst (v := nI 2) hx hb dL_424 (by decide) ?_
      refine lv_iadd hx hb dL_425 ?_
      rw [nI_add]
      refine va_sld hx hb hX hbl hbA hW.2.2.2.2 (vp_in_nI (show i + 2 < L by omega) (by omega)) dL_426 ?_
      rw [nI_clamp (show i + 2 < 2 ^ 31 by omega)]
      refine lv_if_eq (tgt := 434) hx hb dL_427 (by decide) (fun q => absurd q hz2) (fun _ => ?_)
      refine lv_iconst (v := nI 1) hx hb dL_430 (by decide) ?_
      refine lv_goto (tgt := 435) hx hb dL_431 (by decide) ?_
      have h0 := hI.2.2.2.2.2.2.2.2.1 (nI 1) (nI 1) _ _ hv (Or.inr rfl) (Or.inr rfl)
      refine lcX (as := [.int (nI 1), .int (nI 1)]) (rest := []) F (by decide) (by decide) (by decide) rfl ll_X11_tick (lPi (wk_X11_tick h0)) (Nat.le_of_ble_eq_true rfl) rfl (by decide) hW hc hs hl.1 dL_435 ?_
      rintro _ A H1 locs1 ⟨r1, rfl, h0⟩ hW1
      refine lv_aload_n hx hb dL_438 rfl (lv_at hl 2 rfl) ?_
      refine lv_aload_n hx hb dL_439 rfl (lv_at hl 0 rfl) ?_
      refine lv_iload_n hx hb dL_440 rfl (lv_at hl 3 rfl) ?_
      refine lv_iconst (v := nI 1) hx hb dL_441 (by decide) ?_
      refine lv_iadd hx hb dL_442 ?_
      rw [nI_add]
      refine va_sld hx hb hX hbl hbA hW1.2.2.2.2 (vp_in_nI (show i + 1 < L by omega) (by omega)) dL_443 ?_
      rw [nI_clamp (show i + 1 < 2 ^ 31 by omega)]
      refine lv_if_eq (tgt := 451) hx hb dL_444 (by decide) (fun q => absurd q hz1) (fun _ => ?_)
      refine lv_iconst (v := nI 1) hx hb dL_447 (by decide) ?_
      refine lv_goto (tgt := 452) hx hb dL_448 (by decide) ?_
      refine lv_aload_n hx hb dL_452 rfl (lv_at hl 0 rfl) ?_
      refine lv_iload_n hx hb dL_453 rfl (lv_at hl 3 rfl) ?_
      refine lv_iconst (v := nI 2) hx hb dL_454 (by decide) ?_
      refine lv_iadd hx hb dL_455 ?_
      rw [nI_add]
      refine va_sld hx hb hX hbl hbA hW1.2.2.2.2 (vp_in_nI (show i + 2 < L by omega) (by omega)) dL_456 ?_
      rw [nI_clamp (show i + 2 < 2 ^ 31 by omega)]
      refine lv_if_eq (tgt := 464) hx hb dL_457 (by decide) (fun q => absurd q hz2) (fun _ => ?_)
      refine lv_iconst (v := nI 1) hx hb dL_460 (by decide) ?_
      refine lv_goto (tgt := 465) hx hb dL_461 (by decide) ?_
      refine lcM (as := [.int (nI 1), .int (nI 1)]) (rest := [.int r1]) F (by decide) (by decide) (by decide) rfl ll_X12_tick (lPi (wk_X12_tick h0)) (Nat.le_of_ble_eq_true rfl) rfl (by simp only [aCat, Value.category]; decide) hW1 hc hs hl.1 dL_465 ?_
      rintro _ B H2 locs2 ⟨r2, rfl, rfl, hv2⟩ hW2
      refine lv_icmp_eq (tgt := 1331) hx hb dL_468 (by decide) (fun _ => ?_) (fun q => absurd rfl q)
      exact k A B H2 locs2 hv2 hW2
set_option maxHeartbeats 4000000 in
theorem lc_9 {Inv : wM → wM → Prop} (hI : lawOk Inv) {i : Nat} (F : LFx p l s m c b L xs D dA adX adM) (hL : L ≤ 3072) (hi : i + 6 ≤ L) (hv : Inv Mx Mm) (hW : LWd D dA adX adM s Mx Mm H locs) (hc : cells ≤ 600000) (hs : slots ≤ 7302250) (hl : lv_has rl 4 [(0, .ref b), (1, .ref (adX 0)), (2, .ref (adM 0)), (3, .int (nI i))])
    (k : ∀ (A B : wM) (H1 : Heap) (locs1 : List Loc), Inv A B → LWd D dA adX adM s A B H1 locs1 → W p l e room_1 s m #[Value.ref b] below meth c H1 locs1 cells slots Q (F0 m 1331 rl [])) : W p l e room_1 s m #[Value.ref b] below meth c H locs cells slots Q (F0 m 473 rl []) := by
  obtain ⟨hx, hb, hml, hown, hts, hX, hbl, -⟩ := id F
  have hbA : ¬ lawA s b := Nat.not_le.mpr hbl
  refine lv_aload_n hx hb dL_473 rfl (lv_at hl 1 rfl) ?_
  refine lv_aload_n hx hb dL_474 rfl (lv_at hl 0 rfl) ?_
  refine lv_iload_n hx hb dL_475 rfl (lv_at hl 3 rfl) ?_
  refine lv_iconst (v := nI 1) hx hb dL_476 (by decide) ?_
  refine lv_iadd hx hb dL_477 ?_
  rw [nI_add]
  refine va_sld hx hb hX hbl hbA hW.2.2.2.2 (vp_in_nI (show i + 1 < L by omega) (by omega)) dL_478 ?_
  rw [nI_clamp (show i + 1 < 2 ^ 31 by omega)]
  refine lv_aload_n hx hb dL_479 rfl (lv_at hl 0 rfl) ?_
  refine lv_iload_n hx hb dL_480 rfl (lv_at hl 3 rfl) ?_
  refine lv_iconst (v := nI 2) hx hb dL_481 (by decide) ?_
  refine lv_iadd hx hb dL_482 ?_
  rw [nI_add]
  refine va_sld hx hb hX hbl hbA hW.2.2.2.2 (vp_in_nI (show i + 2 < L by omega) (by omega)) dL_483 ?_
  rw [nI_clamp (show i + 2 < 2 ^ 31 by omega)]
  refine lv_aload_n hx hb dL_484 rfl (lv_at hl 0 rfl) ?_
  refine lv_iload_n hx hb dL_485 rfl (lv_at hl 3 rfl) ?_
  refine lv_iconst (v := nI 3) hx hb dL_486 (by decide) ?_
  refine lv_iadd hx hb dL_487 ?_
  rw [nI_add]
  refine va_sld hx hb hX hbl hbA hW.2.2.2.2 (vp_in_nI (show i + 3 < L by omega) (by omega)) dL_488 ?_
  rw [nI_clamp (show i + 3 < 2 ^ 31 by omega)]
  have h0 := hI.2.2.2.2.2.2.2.2.2.1 (xs (i + 1)) (xs (i + 2)) (xs (i + 3)) _ _ hv
  refine lcX (as := [.int (xs (i + 1)), .int (xs (i + 2)), .int (xs (i + 3))]) (rest := []) F (by decide) (by decide) (by decide) rfl ll_X11_ticks (lPi (wk_X11_ticks h0)) (Nat.le_of_ble_eq_true rfl) rfl (by decide) hW hc hs hl.1 dL_489 ?_
  rintro _ A H1 locs1 ⟨r1, rfl, h0⟩ hW1
  refine lv_aload_n hx hb dL_492 rfl (lv_at hl 2 rfl) ?_
  refine lv_aload_n hx hb dL_493 rfl (lv_at hl 0 rfl) ?_
  refine lv_iload_n hx hb dL_494 rfl (lv_at hl 3 rfl) ?_
  refine lv_iconst (v := nI 1) hx hb dL_495 (by decide) ?_
  refine lv_iadd hx hb dL_496 ?_
  rw [nI_add]
  refine va_sld hx hb hX hbl hbA hW1.2.2.2.2 (vp_in_nI (show i + 1 < L by omega) (by omega)) dL_497 ?_
  rw [nI_clamp (show i + 1 < 2 ^ 31 by omega)]
  refine lv_aload_n hx hb dL_498 rfl (lv_at hl 0 rfl) ?_
  refine lv_iload_n hx hb dL_499 rfl (lv_at hl 3 rfl) ?_
  refine lv_iconst (v := nI 2) hx hb dL_500 (by decide) ?_
  refine lv_iadd hx hb dL_501 ?_
  rw [nI_add]
  refine va_sld hx hb hX hbl hbA hW1.2.2.2.2 (vp_in_nI (show i + 2 < L by omega) (by omega)) dL_502 ?_
  rw [nI_clamp (show i + 2 < 2 ^ 31 by omega)]
  refine lv_aload_n hx hb dL_503 rfl (lv_at hl 0 rfl) ?_
  refine lv_iload_n hx hb dL_504 rfl (lv_at hl 3 rfl) ?_
  refine lv_iconst (v := nI 3) hx hb dL_505 (by decide) ?_
  refine lv_iadd hx hb dL_506 ?_
  rw [nI_add]
  refine va_sld hx hb hX hbl hbA hW1.2.2.2.2 (vp_in_nI (show i + 3 < L by omega) (by omega)) dL_507 ?_
  rw [nI_clamp (show i + 3 < 2 ^ 31 by omega)]
  refine lcM (as := [.int (xs (i + 1)), .int (xs (i + 2)), .int (xs (i + 3))]) (rest := [.int r1]) F (by decide) (by decide) (by decide) rfl ll_X12_ticks (lPi (wk_X12_ticks h0)) (Nat.le_of_ble_eq_true rfl) rfl (by simp only [aCat, Value.category]; decide) hW1 hc hs hl.1 dL_508 ?_
  rintro _ B H2 locs2 ⟨r2, rfl, rfl, hv2⟩ hW2
  refine lv_icmp_eq (tgt := 1331) hx hb dL_511 (by decide) (fun _ => ?_) (fun q => absurd rfl q)
  exact k A B H2 locs2 hv2 hW2
set_option maxHeartbeats 4000000 in
theorem lc_10 {Inv : wM → wM → Prop} (hI : lawOk Inv) {i : Nat} (F : LFx p l s m c b L xs D dA adX adM) (hL : L ≤ 3072) (hi : i + 6 ≤ L) (hv : Inv Mx Mm) (hW : LWd D dA adX adM s Mx Mm H locs) (hc : cells ≤ 600000) (hs : slots ≤ 7302250) (hl : lv_has rl 4 [(0, .ref b), (1, .ref (adX 0)), (2, .ref (adM 0)), (3, .int (nI i))])
    (k : ∀ (A B : wM) (H1 : Heap) (locs1 : List Loc), Inv A B → LWd D dA adX adM s A B H1 locs1 → W p l e room_1 s m #[Value.ref b] below meth c H1 locs1 cells slots Q (F0 m 1331 rl [])) : W p l e room_1 s m #[Value.ref b] below meth c H locs cells slots Q (F0 m 516 rl []) := by
  obtain ⟨hx, hb, hml, hown, hts, hX, hbl, -⟩ := id F
  have hbA : ¬ lawA s b := Nat.not_le.mpr hbl
  refine lv_aload_n hx hb dL_516 rfl (lv_at hl 1 rfl) ?_
  refine lv_aload_n hx hb dL_517 rfl (lv_at hl 0 rfl) ?_
  refine lv_iload_n hx hb dL_518 rfl (lv_at hl 3 rfl) ?_
  refine lv_iconst (v := nI 1) hx hb dL_519 (by decide) ?_
  refine lv_iadd hx hb dL_520 ?_
  rw [nI_add]
  refine va_sld hx hb hX hbl hbA hW.2.2.2.2 (vp_in_nI (show i + 1 < L by omega) (by omega)) dL_521 ?_
  rw [nI_clamp (show i + 1 < 2 ^ 31 by omega)]
  have h0 := hI.2.2.2.2.2.2.2.2.2.2.1 (xs (i + 1)) _ _ hv
  refine lcX (as := [.int (xs (i + 1))]) (rest := []) F (by decide) (by decide) (by decide) rfl ll_X11_now (lPi (wk_X11_now h0)) (Nat.le_of_ble_eq_true rfl) rfl (by decide) hW hc hs hl.1 dL_522 ?_
  rintro _ A H1 locs1 ⟨r1, rfl, h0⟩ hW1
  refine lv_aload_n hx hb dL_525 rfl (lv_at hl 2 rfl) ?_
  refine lv_aload_n hx hb dL_526 rfl (lv_at hl 0 rfl) ?_
  refine lv_iload_n hx hb dL_527 rfl (lv_at hl 3 rfl) ?_
  refine lv_iconst (v := nI 1) hx hb dL_528 (by decide) ?_
  refine lv_iadd hx hb dL_529 ?_
  rw [nI_add]
  refine va_sld hx hb hX hbl hbA hW1.2.2.2.2 (vp_in_nI (show i + 1 < L by omega) (by omega)) dL_530 ?_
  rw [nI_clamp (show i + 1 < 2 ^ 31 by omega)]
  refine lcM (as := [.int (xs (i + 1))]) (rest := [.int r1]) F (by decide) (by decide) (by decide) rfl ll_X12_now (lPi (wk_X12_now h0)) (Nat.le_of_ble_eq_true rfl) rfl (by simp only [aCat, Value.category]; decide) hW1 hc hs hl.1 dL_531 ?_
  rintro _ B H2 locs2 ⟨r2, rfl, rfl, hv2⟩ hW2
  refine lv_icmp_eq (tgt := 1331) hx hb dL_534 (by decide) (fun _ => ?_) (fun q => absurd rfl q)
  exact k A B H2 locs2 hv2 hW2
set_option maxHeartbeats 4000000 in
theorem lc_11 {Inv : wM → wM → Prop} (hI : lawOk Inv) {i : Nat} (F : LFx p l s m c b L xs D dA adX adM) (hL : L ≤ 3072) (hi : i + 6 ≤ L) (hv : Inv Mx Mm) (hW : LWd D dA adX adM s Mx Mm H locs) (hc : cells ≤ 600000) (hs : slots ≤ 7302250) (hl : lv_has rl 4 [(0, .ref b), (1, .ref (adX 0)), (2, .ref (adM 0)), (3, .int (nI i))])
    (k : ∀ (A B : wM) (H1 : Heap) (locs1 : List Loc), Inv A B → LWd D dA adX adM s A B H1 locs1 → W p l e room_1 s m #[Value.ref b] below meth c H1 locs1 cells slots Q (F0 m 1331 rl [])) : W p l e room_1 s m #[Value.ref b] below meth c H locs cells slots Q (F0 m 539 rl []) := by
  obtain ⟨hx, hb, hml, hown, hts, hX, hbl, -⟩ := id F
  have hbA : ¬ lawA s b := Nat.not_le.mpr hbl
  refine lv_aload_n hx hb dL_539 rfl (lv_at hl 1 rfl) ?_
  refine lv_aload_n hx hb dL_540 rfl (lv_at hl 0 rfl) ?_
  refine lv_iload_n hx hb dL_541 rfl (lv_at hl 3 rfl) ?_
  refine lv_iconst (v := nI 1) hx hb dL_542 (by decide) ?_
  refine lv_iadd hx hb dL_543 ?_
  rw [nI_add]
  refine va_sld hx hb hX hbl hbA hW.2.2.2.2 (vp_in_nI (show i + 1 < L by omega) (by omega)) dL_544 ?_
  rw [nI_clamp (show i + 1 < 2 ^ 31 by omega)]
  refine lv_aload_n hx hb dL_545 rfl (lv_at hl 0 rfl) ?_
  refine lv_iload_n hx hb dL_546 rfl (lv_at hl 3 rfl) ?_
  refine lv_iconst (v := nI 2) hx hb dL_547 (by decide) ?_
  refine lv_iadd hx hb dL_548 ?_
  rw [nI_add]
  refine va_sld hx hb hX hbl hbA hW.2.2.2.2 (vp_in_nI (show i + 2 < L by omega) (by omega)) dL_549 ?_
  rw [nI_clamp (show i + 2 < 2 ^ 31 by omega)]
  refine lv_aload_n hx hb dL_550 rfl (lv_at hl 0 rfl) ?_
  refine lv_iload_n hx hb dL_551 rfl (lv_at hl 3 rfl) ?_
  refine lv_iconst (v := nI 3) hx hb dL_552 (by decide) ?_
  refine lv_iadd hx hb dL_553 ?_
  rw [nI_add]
  refine va_sld hx hb hX hbl hbA hW.2.2.2.2 (vp_in_nI (show i + 3 < L by omega) (by omega)) dL_554 ?_
  rw [nI_clamp (show i + 3 < 2 ^ 31 by omega)]
  have h0 := hI.2.2.2.2.2.2.2.2.2.2.2.1 (xs (i + 1)) (xs (i + 2)) (xs (i + 3)) _ _ hv
  refine lcX (as := [.int (xs (i + 1)), .int (xs (i + 2)), .int (xs (i + 3))]) (rest := []) F (by decide) (by decide) (by decide) rfl ll_X11_path (lPi (wk_X11_path h0)) (Nat.le_of_ble_eq_true rfl) rfl (by decide) hW hc hs hl.1 dL_555 ?_
  rintro _ A H1 locs1 ⟨r1, rfl, h0⟩ hW1
  refine lv_aload_n hx hb dL_558 rfl (lv_at hl 2 rfl) ?_
  refine lv_aload_n hx hb dL_559 rfl (lv_at hl 0 rfl) ?_
  refine lv_iload_n hx hb dL_560 rfl (lv_at hl 3 rfl) ?_
  refine lv_iconst (v := nI 1) hx hb dL_561 (by decide) ?_
  refine lv_iadd hx hb dL_562 ?_
  rw [nI_add]
  refine va_sld hx hb hX hbl hbA hW1.2.2.2.2 (vp_in_nI (show i + 1 < L by omega) (by omega)) dL_563 ?_
  rw [nI_clamp (show i + 1 < 2 ^ 31 by omega)]
  refine lv_aload_n hx hb dL_564 rfl (lv_at hl 0 rfl) ?_
  refine lv_iload_n hx hb dL_565 rfl (lv_at hl 3 rfl) ?_
  refine lv_iconst (v := nI 2) hx hb dL_566 (by decide) ?_
  refine lv_iadd hx hb dL_567 ?_
  rw [nI_add]
  refine va_sld hx hb hX hbl hbA hW1.2.2.2.2 (vp_in_nI (show i + 2 < L by omega) (by omega)) dL_568 ?_
  rw [nI_clamp (show i + 2 < 2 ^ 31 by omega)]
  refine lv_aload_n hx hb dL_569 rfl (lv_at hl 0 rfl) ?_
  refine lv_iload_n hx hb dL_570 rfl (lv_at hl 3 rfl) ?_
  refine lv_iconst (v := nI 3) hx hb dL_571 (by decide) ?_
  refine lv_iadd hx hb dL_572 ?_
  rw [nI_add]
  refine va_sld hx hb hX hbl hbA hW1.2.2.2.2 (vp_in_nI (show i + 3 < L by omega) (by omega)) dL_573 ?_
  rw [nI_clamp (show i + 3 < 2 ^ 31 by omega)]
  refine lcM (as := [.int (xs (i + 1)), .int (xs (i + 2)), .int (xs (i + 3))]) (rest := [.int r1]) F (by decide) (by decide) (by decide) rfl ll_X12_path (lPi (wk_X12_path h0)) (Nat.le_of_ble_eq_true rfl) rfl (by simp only [aCat, Value.category]; decide) hW1 hc hs hl.1 dL_574 ?_
  rintro _ B H2 locs2 ⟨r2, rfl, rfl, hv2⟩ hW2
  refine lv_icmp_eq (tgt := 1331) hx hb dL_577 (by decide) (fun _ => ?_) (fun q => absurd rfl q)
  exact k A B H2 locs2 hv2 hW2
set_option maxHeartbeats 4000000 in
theorem lc_12 {Inv : wM → wM → Prop} (hI : lawOk Inv) {i : Nat} (F : LFx p l s m c b L xs D dA adX adM) (hL : L ≤ 3072) (hi : i + 6 ≤ L) (hv : Inv Mx Mm) (hW : LWd D dA adX adM s Mx Mm H locs) (hc : cells ≤ 600000) (hs : slots ≤ 7302250) (hl : lv_has rl 4 [(0, .ref b), (1, .ref (adX 0)), (2, .ref (adM 0)), (3, .int (nI i))])
    (k : ∀ (A B : wM) (H1 : Heap) (locs1 : List Loc), Inv A B → LWd D dA adX adM s A B H1 locs1 → W p l e room_1 s m #[Value.ref b] below meth c H1 locs1 cells slots Q (F0 m 1331 rl [])) : W p l e room_1 s m #[Value.ref b] below meth c H locs cells slots Q (F0 m 582 rl []) := by
  obtain ⟨hx, hb, hml, hown, hts, hX, hbl, -⟩ := id F
  have hbA : ¬ lawA s b := Nat.not_le.mpr hbl
  refine lv_aload_n hx hb dL_582 rfl (lv_at hl 1 rfl) ?_
  refine lv_aload_n hx hb dL_583 rfl (lv_at hl 0 rfl) ?_
  refine lv_iload_n hx hb dL_584 rfl (lv_at hl 3 rfl) ?_
  refine lv_iconst (v := nI 1) hx hb dL_585 (by decide) ?_
  refine lv_iadd hx hb dL_586 ?_
  rw [nI_add]
  refine va_sld hx hb hX hbl hbA hW.2.2.2.2 (vp_in_nI (show i + 1 < L by omega) (by omega)) dL_587 ?_
  rw [nI_clamp (show i + 1 < 2 ^ 31 by omega)]
  have h0 := hI.2.2.2.2.2.2.2.2.2.2.2.2.1 (xs (i + 1)) _ _ hv
  refine lcX (as := [.int (xs (i + 1))]) (rest := []) F (by decide) (by decide) (by decide) rfl ll_X11_go (lPi (wk_X11_go h0)) (Nat.le_of_ble_eq_true rfl) rfl (by decide) hW hc hs hl.1 dL_588 ?_
  rintro _ A H1 locs1 ⟨r1, rfl, h0⟩ hW1
  refine lv_aload_n hx hb dL_591 rfl (lv_at hl 2 rfl) ?_
  refine lv_aload_n hx hb dL_592 rfl (lv_at hl 0 rfl) ?_
  refine lv_iload_n hx hb dL_593 rfl (lv_at hl 3 rfl) ?_
  refine lv_iconst (v := nI 1) hx hb dL_594 (by decide) ?_
  refine lv_iadd hx hb dL_595 ?_
  rw [nI_add]
  refine va_sld hx hb hX hbl hbA hW1.2.2.2.2 (vp_in_nI (show i + 1 < L by omega) (by omega)) dL_596 ?_
  rw [nI_clamp (show i + 1 < 2 ^ 31 by omega)]
  refine lcM (as := [.int (xs (i + 1))]) (rest := [.int r1]) F (by decide) (by decide) (by decide) rfl ll_X12_go (lPi (wk_X12_go h0)) (Nat.le_of_ble_eq_true rfl) rfl (by simp only [aCat, Value.category]; decide) hW1 hc hs hl.1 dL_597 ?_
  rintro _ B H2 locs2 ⟨r2, rfl, rfl, hv2⟩ hW2
  refine lv_icmp_eq (tgt := 1331) hx hb dL_600 (by decide) (fun _ => ?_) (fun q => absurd rfl q)
  exact k A B H2 locs2 hv2 hW2
set_option maxHeartbeats 4000000 in
theorem lc_13 {Inv : wM → wM → Prop} (hI : lawOk Inv) {i : Nat} (F : LFx p l s m c b L xs D dA adX adM) (hL : L ≤ 3072) (hi : i + 6 ≤ L) (hv : Inv Mx Mm) (hW : LWd D dA adX adM s Mx Mm H locs) (hc : cells ≤ 600000) (hs : slots ≤ 7302250) (hl : lv_has rl 4 [(0, .ref b), (1, .ref (adX 0)), (2, .ref (adM 0)), (3, .int (nI i))])
    (k : ∀ (A B : wM) (H1 : Heap) (locs1 : List Loc), Inv A B → LWd D dA adX adM s A B H1 locs1 → W p l e room_1 s m #[Value.ref b] below meth c H1 locs1 cells slots Q (F0 m 1331 rl [])) : W p l e room_1 s m #[Value.ref b] below meth c H locs cells slots Q (F0 m 605 rl []) := by
  obtain ⟨hx, hb, hml, hown, hts, hX, hbl, -⟩ := id F
  have hbA : ¬ lawA s b := Nat.not_le.mpr hbl
  by_cases hz1 : xs (i + 1) = 0
  ·
    refine lv_aload_n hx hb dL_605 rfl (lv_at hl 1 rfl) ?_
    refine lv_aload_n hx hb dL_606 rfl (lv_at hl 0 rfl) ?_
    refine lv_iload_n hx hb dL_607 rfl (lv_at hl 3 rfl) ?_
    refine lv_iconst (v := nI 1) hx hb dL_608 (by decide) ?_
    refine lv_iadd hx hb dL_609 ?_
    rw [nI_add]
    refine va_sld hx hb hX hbl hbA hW.2.2.2.2 (vp_in_nI (show i + 1 < L by omega) (by omega)) dL_610 ?_
    rw [nI_clamp (show i + 1 < 2 ^ 31 by omega)]
    refine lv_if_eq (tgt := 618) hx hb dL_611 (by decide) (fun _ => ?_) (fun q => absurd hz1 q)
    refine lv_iconst (v := nI 0) hx hb dL_618 (by decide) ?_
    refine lv_aload_n hx hb dL_619 rfl (lv_at hl 0 rfl) ?_
    refine lv_iload_n hx hb dL_620 rfl (lv_at hl 3 rfl) ?_
    refine lv_iconst (v := nI 2) hx hb dL_621 (by decide) ?_
    refine lv_iadd hx hb dL_622 ?_
    rw [nI_add]
    refine va_sld hx hb hX hbl hbA hW.2.2.2.2 (vp_in_nI (show i + 2 < L by omega) (by omega)) dL_623 ?_
    rw [nI_clamp (show i + 2 < 2 ^ 31 by omega)]
    refine lv_aload_n hx hb dL_624 rfl (lv_at hl 0 rfl) ?_
    refine lv_iload_n hx hb dL_625 rfl (lv_at hl 3 rfl) ?_
    refine lv_iconst (v := nI 3) hx hb dL_626 (by decide) ?_
    refine lv_iadd hx hb dL_627 ?_
    rw [nI_add]
    refine va_sld hx hb hX hbl hbA hW.2.2.2.2 (vp_in_nI (show i + 3 < L by omega) (by omega)) dL_628 ?_
    rw [nI_clamp (show i + 3 < 2 ^ 31 by omega)]
    refine lv_aload_n hx hb dL_629 rfl (lv_at hl 0 rfl) ?_
    refine lv_iload_n hx hb dL_630 rfl (lv_at hl 3 rfl) ?_
    refine lv_iconst (v := nI 4) hx hb dL_631 (by decide) ?_
    refine lv_iadd hx hb dL_632 ?_
    rw [nI_add]
    refine va_sld hx hb hX hbl hbA hW.2.2.2.2 (vp_in_nI (show i + 4 < L by omega) (by omega)) dL_633 ?_
    rw [nI_clamp (show i + 4 < 2 ^ 31 by omega)]
    refine lv_aload_n hx hb dL_634 rfl (lv_at hl 0 rfl) ?_
    refine lv_iload_n hx hb dL_635 rfl (lv_at hl 3 rfl) ?_
    refine lv_iconst (v := nI 5) hx hb dL_636 (by decide) ?_
    refine lv_iadd hx hb dL_637 ?_
    rw [nI_add]
    refine va_sld hx hb hX hbl hbA hW.2.2.2.2 (vp_in_nI (show i + 5 < L by omega) (by omega)) dL_638 ?_
    rw [nI_clamp (show i + 5 < 2 ^ 31 by omega)]
    have h0 := hI.2.2.2.2.2.2.2.2.2.2.2.2.2.1 (nI 0) (xs (i + 2)) (xs (i + 3)) (xs (i + 4)) (xs (i + 5)) _ _ hv (Or.inl rfl)
    refine lcX (as := [.int (nI 0), .int (xs (i + 2)), .int (xs (i + 3)), .int (xs (i + 4)), .int (xs (i + 5))]) (rest := []) F (by decide) (by decide) (by decide) rfl ll_X11_scan (lPi (wk_X11_scan h0)) (Nat.le_of_ble_eq_true rfl) rfl (by decide) hW hc hs hl.1 dL_639 ?_
    rintro _ A H1 locs1 ⟨r1, rfl, h0⟩ hW1
    refine lv_aload_n hx hb dL_642 rfl (lv_at hl 2 rfl) ?_
    refine lv_aload_n hx hb dL_643 rfl (lv_at hl 0 rfl) ?_
    refine lv_iload_n hx hb dL_644 rfl (lv_at hl 3 rfl) ?_
    refine lv_iconst (v := nI 1) hx hb dL_645 (by decide) ?_
    refine lv_iadd hx hb dL_646 ?_
    rw [nI_add]
    refine va_sld hx hb hX hbl hbA hW1.2.2.2.2 (vp_in_nI (show i + 1 < L by omega) (by omega)) dL_647 ?_
    rw [nI_clamp (show i + 1 < 2 ^ 31 by omega)]
    refine lv_if_eq (tgt := 655) hx hb dL_648 (by decide) (fun _ => ?_) (fun q => absurd hz1 q)
    refine lv_iconst (v := nI 0) hx hb dL_655 (by decide) ?_
    refine lv_aload_n hx hb dL_656 rfl (lv_at hl 0 rfl) ?_
    refine lv_iload_n hx hb dL_657 rfl (lv_at hl 3 rfl) ?_
    refine lv_iconst (v := nI 2) hx hb dL_658 (by decide) ?_
    refine lv_iadd hx hb dL_659 ?_
    rw [nI_add]
    refine va_sld hx hb hX hbl hbA hW1.2.2.2.2 (vp_in_nI (show i + 2 < L by omega) (by omega)) dL_660 ?_
    rw [nI_clamp (show i + 2 < 2 ^ 31 by omega)]
    refine lv_aload_n hx hb dL_661 rfl (lv_at hl 0 rfl) ?_
    refine lv_iload_n hx hb dL_662 rfl (lv_at hl 3 rfl) ?_
    refine lv_iconst (v := nI 3) hx hb dL_663 (by decide) ?_
    refine lv_iadd hx hb dL_664 ?_
    rw [nI_add]
    refine va_sld hx hb hX hbl hbA hW1.2.2.2.2 (vp_in_nI (show i + 3 < L by omega) (by omega)) dL_665 ?_
    rw [nI_clamp (show i + 3 < 2 ^ 31 by omega)]
    refine lv_aload_n hx hb dL_666 rfl (lv_at hl 0 rfl) ?_
    refine lv_iload_n hx hb dL_667 rfl (lv_at hl 3 rfl) ?_
    refine lv_iconst (v := nI 4) hx hb dL_668 (by decide) ?_
    refine lv_iadd hx hb dL_669 ?_
    rw [nI_add]
    refine va_sld hx hb hX hbl hbA hW1.2.2.2.2 (vp_in_nI (show i + 4 < L by omega) (by omega)) dL_670 ?_
    rw [nI_clamp (show i + 4 < 2 ^ 31 by omega)]
    refine lv_aload_n hx hb dL_671 rfl (lv_at hl 0 rfl) ?_
    refine lv_iload_n hx hb dL_672 rfl (lv_at hl 3 rfl) ?_
    refine lv_iconst (v := nI 5) hx hb dL_673 (by decide) ?_
    refine lv_iadd hx hb dL_674 ?_
    rw [nI_add]
    refine va_sld hx hb hX hbl hbA hW1.2.2.2.2 (vp_in_nI (show i + 5 < L by omega) (by omega)) dL_675 ?_
    rw [nI_clamp (show i + 5 < 2 ^ 31 by omega)]
    refine lcM (as := [.int (nI 0), .int (xs (i + 2)), .int (xs (i + 3)), .int (xs (i + 4)), .int (xs (i + 5))]) (rest := [.int r1]) F (by decide) (by decide) (by decide) rfl ll_X12_scan (lPi (wk_X12_scan h0)) (Nat.le_of_ble_eq_true rfl) rfl (by simp only [aCat, Value.category]; decide) hW1 hc hs hl.1 dL_676 ?_
    rintro _ B H2 locs2 ⟨r2, rfl, rfl, hv2⟩ hW2
    refine lv_icmp_eq (tgt := 1331) hx hb dL_679 (by decide) (fun _ => ?_) (fun q => absurd rfl q)
    exact k A B H2 locs2 hv2 hW2
  ·
    refine lv_aload_n hx hb dL_605 rfl (lv_at hl 1 rfl) ?_
    refine lv_aload_n hx hb dL_606 rfl (lv_at hl 0 rfl) ?_
    refine lv_iload_n hx hb dL_607 rfl (lv_at hl 3 rfl) ?_
    refine lv_iconst (v := nI 1) hx hb dL_608 (by decide) ?_
    refine lv_iadd hx hb dL_609 ?_
    rw [nI_add]
    refine va_sld hx hb hX hbl hbA hW.2.2.2.2 (vp_in_nI (show i + 1 < L by omega) (by omega)) dL_610 ?_
    rw [nI_clamp (show i + 1 < 2 ^ 31 by omega)]
    refine lv_if_eq (tgt := 618) hx hb dL_611 (by decide) (fun q => absurd q hz1) (fun _ => ?_)
    refine lv_iconst (v := nI 1) hx hb dL_614 (by decide) ?_
    refine lv_goto (tgt := 619) hx hb dL_615 (by decide) ?_
    refine lv_aload_n hx hb dL_619 rfl (lv_at hl 0 rfl) ?_
    refine lv_iload_n hx hb dL_620 rfl (lv_at hl 3 rfl) ?_
    refine lv_iconst (v := nI 2) hx hb dL_621 (by decide) ?_
    refine lv_iadd hx hb dL_622 ?_
    rw [nI_add]
    refine va_sld hx hb hX hbl hbA hW.2.2.2.2 (vp_in_nI (show i + 2 < L by omega) (by omega)) dL_623 ?_
    rw [nI_clamp (show i + 2 < 2 ^ 31 by omega)]
    refine lv_aload_n hx hb dL_624 rfl (lv_at hl 0 rfl) ?_
    refine lv_iload_n hx hb dL_625 rfl (lv_at hl 3 rfl) ?_
    refine lv_iconst (v := nI 3) hx hb dL_626 (by decide) ?_
    refine lv_iadd hx hb dL_627 ?_
    rw [nI_add]
    refine va_sld hx hb hX hbl hbA hW.2.2.2.2 (vp_in_nI (show i + 3 < L by omega) (by omega)) dL_628 ?_
    rw [nI_clamp (show i + 3 < 2 ^ 31 by omega)]
    refine lv_aload_n hx hb dL_629 rfl (lv_at hl 0 rfl) ?_
    refine lv_iload_n hx hb dL_630 rfl (lv_at hl 3 rfl) ?_
    refine lv_iconst (v := nI 4) hx hb dL_631 (by decide) ?_
    refine lv_iadd hx hb dL_632 ?_
    rw [nI_add]
    refine va_sld hx hb hX hbl hbA hW.2.2.2.2 (vp_in_nI (show i + 4 < L by omega) (by omega)) dL_633 ?_
    rw [nI_clamp (show i + 4 < 2 ^ 31 by omega)]
    refine lv_aload_n hx hb dL_634 rfl (lv_at hl 0 rfl) ?_
    refine lv_iload_n hx hb dL_635 rfl (lv_at hl 3 rfl) ?_
    refine lv_iconst (v := nI 5) hx hb dL_636 (by decide) ?_
    refine lv_iadd hx hb dL_637 ?_
    rw [nI_add]
    refine va_sld hx hb hX hbl hbA hW.2.2.2.2 (vp_in_nI (show i + 5 < L by omega) (by omega)) dL_638 ?_
    rw [nI_clamp (show i + 5 < 2 ^ 31 by omega)]
    have h0 := hI.2.2.2.2.2.2.2.2.2.2.2.2.2.1 (nI 1) (xs (i + 2)) (xs (i + 3)) (xs (i + 4)) (xs (i + 5)) _ _ hv (Or.inr rfl)
    refine lcX (as := [.int (nI 1), .int (xs (i + 2)), .int (xs (i + 3)), .int (xs (i + 4)), .int (xs (i + 5))]) (rest := []) F (by decide) (by decide) (by decide) rfl ll_X11_scan (lPi (wk_X11_scan h0)) (Nat.le_of_ble_eq_true rfl) rfl (by decide) hW hc hs hl.1 dL_639 ?_
    rintro _ A H1 locs1 ⟨r1, rfl, h0⟩ hW1
    refine lv_aload_n hx hb dL_642 rfl (lv_at hl 2 rfl) ?_
    refine lv_aload_n hx hb dL_643 rfl (lv_at hl 0 rfl) ?_
    refine lv_iload_n hx hb dL_644 rfl (lv_at hl 3 rfl) ?_
    refine lv_iconst (v := nI 1) hx hb dL_645 (by decide) ?_
    refine lv_iadd hx hb dL_646 ?_
    rw [nI_add]
    refine va_sld hx hb hX hbl hbA hW1.2.2.2.2 (vp_in_nI (show i + 1 < L by omega) (by omega)) dL_647 ?_
    rw [nI_clamp (show i + 1 < 2 ^ 31 by omega)]
    refine lv_if_eq (tgt := 655) hx hb dL_648 (by decide) (fun q => absurd q hz1) (fun _ => ?_)
    refine lv_iconst (v := nI 1) hx hb dL_651 (by decide) ?_
    refine lv_goto (tgt := 656) hx hb dL_652 (by decide) ?_
    refine lv_aload_n hx hb dL_656 rfl (lv_at hl 0 rfl) ?_
    refine lv_iload_n hx hb dL_657 rfl (lv_at hl 3 rfl) ?_
    refine lv_iconst (v := nI 2) hx hb dL_658 (by decide) ?_
    refine lv_iadd hx hb dL_659 ?_
    rw [nI_add]
    refine va_sld hx hb hX hbl hbA hW1.2.2.2.2 (vp_in_nI (show i + 2 < L by omega) (by omega)) dL_660 ?_
    rw [nI_clamp (show i + 2 < 2 ^ 31 by omega)]
    refine lv_aload_n hx hb dL_661 rfl (lv_at hl 0 rfl) ?_
    refine lv_iload_n hx hb dL_662 rfl (lv_at hl 3 rfl) ?_
    refine lv_iconst (v := nI 3) hx hb dL_663 (by decide) ?_
    refine lv_iadd hx hb dL_664 ?_
    rw [nI_add]
    refine va_sld hx hb hX hbl hbA hW1.2.2.2.2 (vp_in_nI (show i + 3 < L by omega) (by omega)) dL_665 ?_
    rw [nI_clamp (show i + 3 < 2 ^ 31 by omega)]
    refine lv_aload_n hx hb dL_666 rfl (lv_at hl 0 rfl) ?_
    refine lv_iload_n hx hb dL_667 rfl (lv_at hl 3 rfl) ?_
    refine lv_iconst (v := nI 4) hx hb dL_668 (by decide) ?_
    refine lv_iadd hx hb dL_669 ?_
    rw [nI_add]
    refine va_sld hx hb hX hbl hbA hW1.2.2.2.2 (vp_in_nI (show i + 4 < L by omega) (by omega)) dL_670 ?_
    rw [nI_clamp (show i + 4 < 2 ^ 31 by omega)]
    refine lv_aload_n hx hb dL_671 rfl (lv_at hl 0 rfl) ?_
    refine lv_iload_n hx hb dL_672 rfl (lv_at hl 3 rfl) ?_
    refine lv_iconst (v := nI 5) hx hb dL_673 (by decide) ?_
    refine lv_iadd hx hb dL_674 ?_
    rw [nI_add]
    refine va_sld hx hb hX hbl hbA hW1.2.2.2.2 (vp_in_nI (show i + 5 < L by omega) (by omega)) dL_675 ?_
    rw [nI_clamp (show i + 5 < 2 ^ 31 by omega)]
    refine lcM (as := [.int (nI 1), .int (xs (i + 2)), .int (xs (i + 3)), .int (xs (i + 4)), .int (xs (i + 5))]) (rest := [.int r1]) F (by decide) (by decide) (by decide) rfl ll_X12_scan (lPi (wk_X12_scan h0)) (Nat.le_of_ble_eq_true rfl) rfl (by simp only [aCat, Value.category]; decide) hW1 hc hs hl.1 dL_676 ?_
    rintro _ B H2 locs2 ⟨r2, rfl, rfl, hv2⟩ hW2
    refine lv_icmp_eq (tgt := 1331) hx hb dL_679 (by decide) (fun _ => ?_) (fun q => absurd rfl q)
    exact k A B H2 locs2 hv2 hW2
set_option maxHeartbeats 4000000 in
theorem lc_14 {Inv : wM → wM → Prop} (hI : lawOk Inv) {i : Nat} (F : LFx p l s m c b L xs D dA adX adM) (hL : L ≤ 3072) (hi : i + 6 ≤ L) (hv : Inv Mx Mm) (hW : LWd D dA adX adM s Mx Mm H locs) (hc : cells ≤ 600000) (hs : slots ≤ 7302250) (hl : lv_has rl 4 [(0, .ref b), (1, .ref (adX 0)), (2, .ref (adM 0)), (3, .int (nI i))])
    (k : ∀ (A B : wM) (H1 : Heap) (locs1 : List Loc), Inv A B → LWd D dA adX adM s A B H1 locs1 → W p l e room_1 s m #[Value.ref b] below meth c H1 locs1 cells slots Q (F0 m 1331 rl [])) : W p l e room_1 s m #[Value.ref b] below meth c H locs cells slots Q (F0 m 684 rl []) := by
  obtain ⟨hx, hb, hml, hown, hts, hX, hbl, -⟩ := id F
  have hbA : ¬ lawA s b := Nat.not_le.mpr hbl
  refine lv_aload_n hx hb dL_684 rfl (lv_at hl 1 rfl) ?_
  refine lv_aload_n hx hb dL_685 rfl (lv_at hl 0 rfl) ?_
  refine lv_iload_n hx hb dL_686 rfl (lv_at hl 3 rfl) ?_
  refine lv_iconst (v := nI 1) hx hb dL_687 (by decide) ?_
  refine lv_iadd hx hb dL_688 ?_
  rw [nI_add]
  refine va_sld hx hb hX hbl hbA hW.2.2.2.2 (vp_in_nI (show i + 1 < L by omega) (by omega)) dL_689 ?_
  rw [nI_clamp (show i + 1 < 2 ^ 31 by omega)]
  have h0 := hI.2.2.2.2.2.2.2.2.2.2.2.2.2.2.1 (xs (i + 1)) _ _ hv
  refine lcX (as := [.int (xs (i + 1))]) (rest := []) F (by decide) (by decide) (by decide) rfl ll_X11_log (lPi (wk_X11_log h0)) (Nat.le_of_ble_eq_true rfl) rfl (by decide) hW hc hs hl.1 dL_690 ?_
  rintro _ A H1 locs1 ⟨r1, rfl, h0⟩ hW1
  refine lv_aload_n hx hb dL_693 rfl (lv_at hl 2 rfl) ?_
  refine lv_aload_n hx hb dL_694 rfl (lv_at hl 0 rfl) ?_
  refine lv_iload_n hx hb dL_695 rfl (lv_at hl 3 rfl) ?_
  refine lv_iconst (v := nI 1) hx hb dL_696 (by decide) ?_
  refine lv_iadd hx hb dL_697 ?_
  rw [nI_add]
  refine va_sld hx hb hX hbl hbA hW1.2.2.2.2 (vp_in_nI (show i + 1 < L by omega) (by omega)) dL_698 ?_
  rw [nI_clamp (show i + 1 < 2 ^ 31 by omega)]
  refine lcM (as := [.int (xs (i + 1))]) (rest := [.int r1]) F (by decide) (by decide) (by decide) rfl ll_X12_log (lPi (wk_X12_log h0)) (Nat.le_of_ble_eq_true rfl) rfl (by simp only [aCat, Value.category]; decide) hW1 hc hs hl.1 dL_699 ?_
  rintro _ B H2 locs2 ⟨r2, rfl, rfl, hv2⟩ hW2
  refine lv_icmp_eq (tgt := 1331) hx hb dL_702 (by decide) (fun _ => ?_) (fun q => absurd rfl q)
  exact k A B H2 locs2 hv2 hW2
set_option maxHeartbeats 4000000 in
theorem lc_15 {Inv : wM → wM → Prop} (hI : lawOk Inv) {i : Nat} (F : LFx p l s m c b L xs D dA adX adM) (hL : L ≤ 3072) (hi : i + 6 ≤ L) (hv : Inv Mx Mm) (hW : LWd D dA adX adM s Mx Mm H locs) (hc : cells ≤ 600000) (hs : slots ≤ 7302250) (hl : lv_has rl 4 [(0, .ref b), (1, .ref (adX 0)), (2, .ref (adM 0)), (3, .int (nI i))])
    (k : ∀ (A B : wM) (H1 : Heap) (locs1 : List Loc), Inv A B → LWd D dA adX adM s A B H1 locs1 → W p l e room_1 s m #[Value.ref b] below meth c H1 locs1 cells slots Q (F0 m 1331 rl [])) : W p l e room_1 s m #[Value.ref b] below meth c H locs cells slots Q (F0 m 707 rl []) := by
  obtain ⟨hx, hb, hml, hown, hts, hX, hbl, -⟩ := id F
  have hbA : ¬ lawA s b := Nat.not_le.mpr hbl
  refine lv_aload_n hx hb dL_707 rfl (lv_at hl 1 rfl) ?_
  have h0 := hI.2.2.2.2.2.2.2.2.2.2.2.2.2.2.2.1 _ _ hv
  refine lcX (as := []) (rest := []) F (by decide) (by decide) (by decide) rfl ll_X11_found (lPi (wk_X11_found h0)) (Nat.le_of_ble_eq_true rfl) rfl (by decide) hW hc hs hl.1 dL_708 ?_
  rintro _ A H1 locs1 ⟨r1, rfl, h0⟩ hW1
  refine lv_aload_n hx hb dL_711 rfl (lv_at hl 2 rfl) ?_
  refine lcM (as := []) (rest := [.int r1]) F (by decide) (by decide) (by decide) rfl ll_X12_found (lPi (wk_X12_found h0)) (Nat.le_of_ble_eq_true rfl) rfl (by simp only [aCat, Value.category]; decide) hW1 hc hs hl.1 dL_712 ?_
  rintro _ B H2 locs2 ⟨r2, rfl, rfl, hv2⟩ hW2
  refine lv_icmp_eq (tgt := 1331) hx hb dL_715 (by decide) (fun _ => ?_) (fun q => absurd rfl q)
  exact k A B H2 locs2 hv2 hW2
set_option maxHeartbeats 4000000 in
theorem lc_16 {Inv : wM → wM → Prop} (hI : lawOk Inv) {i : Nat} (F : LFx p l s m c b L xs D dA adX adM) (hL : L ≤ 3072) (hi : i + 6 ≤ L) (hv : Inv Mx Mm) (hW : LWd D dA adX adM s Mx Mm H locs) (hc : cells ≤ 600000) (hs : slots ≤ 7302250) (hl : lv_has rl 4 [(0, .ref b), (1, .ref (adX 0)), (2, .ref (adM 0)), (3, .int (nI i))])
    (k : ∀ (A B : wM) (H1 : Heap) (locs1 : List Loc), Inv A B → LWd D dA adX adM s A B H1 locs1 → W p l e room_1 s m #[Value.ref b] below meth c H1 locs1 cells slots Q (F0 m 1331 rl [])) : W p l e room_1 s m #[Value.ref b] below meth c H locs cells slots Q (F0 m 720 rl []) := by
  obtain ⟨hx, hb, hml, hown, hts, hX, hbl, -⟩ := id F
  have hbA : ¬ lawA s b := Nat.not_le.mpr hbl
  refine lv_aload_n hx hb dL_720 rfl (lv_at hl 1 rfl) ?_
  refine lv_aload_n hx hb dL_721 rfl (lv_at hl 0 rfl) ?_
  refine lv_iload_n hx hb dL_722 rfl (lv_at hl 3 rfl) ?_
  refine lv_iconst (v := nI 1) hx hb dL_723 (by decide) ?_
  refine lv_iadd hx hb dL_724 ?_
  rw [nI_add]
  refine va_sld hx hb hX hbl hbA hW.2.2.2.2 (vp_in_nI (show i + 1 < L by omega) (by omega)) dL_725 ?_
  rw [nI_clamp (show i + 1 < 2 ^ 31 by omega)]
  have h0 := hI.2.2.2.2.2.2.2.2.2.2.2.2.2.2.2.2.1 (xs (i + 1)) _ _ hv
  refine lcX (as := [.int (xs (i + 1))]) (rest := []) F (by decide) (by decide) (by decide) rfl ll_X11_identity (lPl (wk_X11_identity h0)) (Nat.le_of_ble_eq_true rfl) rfl (by decide) hW hc hs hl.1 dL_726 ?_
  rintro _ A H1 locs1 ⟨r1, rfl, h0⟩ hW1
  refine lv_aload_n hx hb dL_729 rfl (lv_at hl 2 rfl) ?_
  refine lv_aload_n hx hb dL_730 rfl (lv_at hl 0 rfl) ?_
  refine lv_iload_n hx hb dL_731 rfl (lv_at hl 3 rfl) ?_
  refine lv_iconst (v := nI 1) hx hb dL_732 (by decide) ?_
  refine lv_iadd hx hb dL_733 ?_
  rw [nI_add]
  refine va_sld hx hb hX hbl hbA hW1.2.2.2.2 (vp_in_nI (show i + 1 < L by omega) (by omega)) dL_734 ?_
  rw [nI_clamp (show i + 1 < 2 ^ 31 by omega)]
  refine lcM (as := [.int (xs (i + 1))]) (rest := [.long r1]) F (by decide) (by decide) (by decide) rfl ll_X12_identity (lPl (wk_X12_identity h0)) (Nat.le_of_ble_eq_true rfl) rfl (by simp only [aCat, Value.category]; decide) hW1 hc hs hl.1 dL_735 ?_
  rintro _ B H2 locs2 ⟨r2, rfl, rfl, hv2⟩ hW2
  refine W.lcmp hx hb dL_738 ?_
  rw [show lg_cmp r1 r1 = 0 by simp [lg_cmp]]
  refine lv_if_eq (tgt := 1331) hx hb dL_739 (by decide) (fun _ => ?_) (fun q => absurd rfl q)
  exact k A B H2 locs2 hv2 hW2
set_option maxHeartbeats 4000000 in
theorem lc_17 {Inv : wM → wM → Prop} (hI : lawOk Inv) {i : Nat} (F : LFx p l s m c b L xs D dA adX adM) (hL : L ≤ 3072) (hi : i + 6 ≤ L) (hv : Inv Mx Mm) (hW : LWd D dA adX adM s Mx Mm H locs) (hc : cells ≤ 600000) (hs : slots ≤ 7302250) (hl : lv_has rl 4 [(0, .ref b), (1, .ref (adX 0)), (2, .ref (adM 0)), (3, .int (nI i))])
    (k : ∀ (A B : wM) (H1 : Heap) (locs1 : List Loc), Inv A B → LWd D dA adX adM s A B H1 locs1 → W p l e room_1 s m #[Value.ref b] below meth c H1 locs1 cells slots Q (F0 m 1331 rl [])) : W p l e room_1 s m #[Value.ref b] below meth c H locs cells slots Q (F0 m 744 rl []) := by
  obtain ⟨hx, hb, hml, hown, hts, hX, hbl, -⟩ := id F
  have hbA : ¬ lawA s b := Nat.not_le.mpr hbl
  refine lv_aload_n hx hb dL_744 rfl (lv_at hl 1 rfl) ?_
  have h0 := hI.2.2.2.2.2.2.2.2.2.2.2.2.2.2.2.2.2.1 _ _ hv
  refine lcX (as := []) (rest := []) F (by decide) (by decide) (by decide) rfl ll_X11_broken (lPi (wk_X11_broken h0)) (Nat.le_of_ble_eq_true rfl) rfl (by decide) hW hc hs hl.1 dL_745 ?_
  rintro _ A H1 locs1 ⟨r1, rfl, h0⟩ hW1
  refine lv_aload_n hx hb dL_748 rfl (lv_at hl 2 rfl) ?_
  refine lcM (as := []) (rest := [.int r1]) F (by decide) (by decide) (by decide) rfl ll_X12_broken (lPi (wk_X12_broken h0)) (Nat.le_of_ble_eq_true rfl) rfl (by simp only [aCat, Value.category]; decide) hW1 hc hs hl.1 dL_749 ?_
  rintro _ B H2 locs2 ⟨r2, rfl, rfl, hv2⟩ hW2
  refine lv_icmp_eq (tgt := 1331) hx hb dL_752 (by decide) (fun _ => ?_) (fun q => absurd rfl q)
  exact k A B H2 locs2 hv2 hW2
set_option maxHeartbeats 4000000 in
theorem lc_18 {Inv : wM → wM → Prop} (hI : lawOk Inv) {i : Nat} (F : LFx p l s m c b L xs D dA adX adM) (hL : L ≤ 3072) (hi : i + 6 ≤ L) (hv : Inv Mx Mm) (hW : LWd D dA adX adM s Mx Mm H locs) (hc : cells ≤ 600000) (hs : slots ≤ 7302250) (hl : lv_has rl 4 [(0, .ref b), (1, .ref (adX 0)), (2, .ref (adM 0)), (3, .int (nI i))])
    (k : ∀ (A B : wM) (H1 : Heap) (locs1 : List Loc), Inv A B → LWd D dA adX adM s A B H1 locs1 → W p l e room_1 s m #[Value.ref b] below meth c H1 locs1 cells slots Q (F0 m 1331 rl [])) : W p l e room_1 s m #[Value.ref b] below meth c H locs cells slots Q (F0 m 757 rl []) := by
  obtain ⟨hx, hb, hml, hown, hts, hX, hbl, -⟩ := id F
  have hbA : ¬ lawA s b := Nat.not_le.mpr hbl
  refine lv_aload_n hx hb dL_757 rfl (lv_at hl 1 rfl) ?_
  have h0 := hI.2.2.2.2.2.2.2.2.2.2.2.2.2.2.2.2.2.2.1 _ _ hv
  refine lcX (as := []) (rest := []) F (by decide) (by decide) (by decide) rfl ll_X11_net (lPi (wk_X11_net h0)) (Nat.le_of_ble_eq_true rfl) rfl (by decide) hW hc hs hl.1 dL_758 ?_
  rintro _ A H1 locs1 ⟨r1, rfl, h0⟩ hW1
  refine lv_aload_n hx hb dL_761 rfl (lv_at hl 2 rfl) ?_
  refine lcM (as := []) (rest := [.int r1]) F (by decide) (by decide) (by decide) rfl ll_X12_net (lPi (wk_X12_net h0)) (Nat.le_of_ble_eq_true rfl) rfl (by simp only [aCat, Value.category]; decide) hW1 hc hs hl.1 dL_762 ?_
  rintro _ B H2 locs2 ⟨r2, rfl, rfl, hv2⟩ hW2
  refine lv_icmp_eq (tgt := 1331) hx hb dL_765 (by decide) (fun _ => ?_) (fun q => absurd rfl q)
  exact k A B H2 locs2 hv2 hW2
set_option maxHeartbeats 4000000 in
theorem lc_19 {Inv : wM → wM → Prop} (hI : lawOk Inv) {i : Nat} (F : LFx p l s m c b L xs D dA adX adM) (hL : L ≤ 3072) (hi : i + 6 ≤ L) (hv : Inv Mx Mm) (hW : LWd D dA adX adM s Mx Mm H locs) (hc : cells ≤ 600000) (hs : slots ≤ 7302250) (hl : lv_has rl 4 [(0, .ref b), (1, .ref (adX 0)), (2, .ref (adM 0)), (3, .int (nI i))])
    (k : ∀ (A B : wM) (H1 : Heap) (locs1 : List Loc), Inv A B → LWd D dA adX adM s A B H1 locs1 → W p l e room_1 s m #[Value.ref b] below meth c H1 locs1 cells slots Q (F0 m 1331 rl [])) : W p l e room_1 s m #[Value.ref b] below meth c H locs cells slots Q (F0 m 770 rl []) := by
  obtain ⟨hx, hb, hml, hown, hts, hX, hbl, -⟩ := id F
  have hbA : ¬ lawA s b := Nat.not_le.mpr hbl
  refine lv_aload_n hx hb dL_770 rfl (lv_at hl 1 rfl) ?_
  refine lv_aload_n hx hb dL_771 rfl (lv_at hl 0 rfl) ?_
  refine lv_iload_n hx hb dL_772 rfl (lv_at hl 3 rfl) ?_
  refine lv_iconst (v := nI 1) hx hb dL_773 (by decide) ?_
  refine lv_iadd hx hb dL_774 ?_
  rw [nI_add]
  refine va_sld hx hb hX hbl hbA hW.2.2.2.2 (vp_in_nI (show i + 1 < L by omega) (by omega)) dL_775 ?_
  rw [nI_clamp (show i + 1 < 2 ^ 31 by omega)]
  refine lv_aload_n hx hb dL_776 rfl (lv_at hl 0 rfl) ?_
  refine lv_iload_n hx hb dL_777 rfl (lv_at hl 3 rfl) ?_
  refine lv_iconst (v := nI 2) hx hb dL_778 (by decide) ?_
  refine lv_iadd hx hb dL_779 ?_
  rw [nI_add]
  refine va_sld hx hb hX hbl hbA hW.2.2.2.2 (vp_in_nI (show i + 2 < L by omega) (by omega)) dL_780 ?_
  rw [nI_clamp (show i + 2 < 2 ^ 31 by omega)]
  refine lv_aload_n hx hb dL_781 rfl (lv_at hl 0 rfl) ?_
  refine lv_iload_n hx hb dL_782 rfl (lv_at hl 3 rfl) ?_
  refine lv_iconst (v := nI 3) hx hb dL_783 (by decide) ?_
  refine lv_iadd hx hb dL_784 ?_
  rw [nI_add]
  refine va_sld hx hb hX hbl hbA hW.2.2.2.2 (vp_in_nI (show i + 3 < L by omega) (by omega)) dL_785 ?_
  rw [nI_clamp (show i + 3 < 2 ^ 31 by omega)]
  have h0 := hI.2.2.2.2.2.2.2.2.2.2.2.2.2.2.2.2.2.2.2.1 (xs (i + 1)) (xs (i + 2)) (xs (i + 3)) _ _ hv
  refine lcX (as := [.int (xs (i + 1)), .int (xs (i + 2)), .int (xs (i + 3))]) (rest := []) F (by decide) (by decide) (by decide) rfl ll_X11_join (lPi (wk_X11_join h0)) (Nat.le_of_ble_eq_true rfl) rfl (by decide) hW hc hs hl.1 dL_786 ?_
  rintro _ A H1 locs1 ⟨r1, rfl, h0⟩ hW1
  refine lv_aload_n hx hb dL_789 rfl (lv_at hl 2 rfl) ?_
  refine lv_aload_n hx hb dL_790 rfl (lv_at hl 0 rfl) ?_
  refine lv_iload_n hx hb dL_791 rfl (lv_at hl 3 rfl) ?_
  refine lv_iconst (v := nI 1) hx hb dL_792 (by decide) ?_
  refine lv_iadd hx hb dL_793 ?_
  rw [nI_add]
  refine va_sld hx hb hX hbl hbA hW1.2.2.2.2 (vp_in_nI (show i + 1 < L by omega) (by omega)) dL_794 ?_
  rw [nI_clamp (show i + 1 < 2 ^ 31 by omega)]
  refine lv_aload_n hx hb dL_795 rfl (lv_at hl 0 rfl) ?_
  refine lv_iload_n hx hb dL_796 rfl (lv_at hl 3 rfl) ?_
  refine lv_iconst (v := nI 2) hx hb dL_797 (by decide) ?_
  refine lv_iadd hx hb dL_798 ?_
  rw [nI_add]
  refine va_sld hx hb hX hbl hbA hW1.2.2.2.2 (vp_in_nI (show i + 2 < L by omega) (by omega)) dL_799 ?_
  rw [nI_clamp (show i + 2 < 2 ^ 31 by omega)]
  refine lv_aload_n hx hb dL_800 rfl (lv_at hl 0 rfl) ?_
  refine lv_iload_n hx hb dL_801 rfl (lv_at hl 3 rfl) ?_
  refine lv_iconst (v := nI 3) hx hb dL_802 (by decide) ?_
  refine lv_iadd hx hb dL_803 ?_
  rw [nI_add]
  refine va_sld hx hb hX hbl hbA hW1.2.2.2.2 (vp_in_nI (show i + 3 < L by omega) (by omega)) dL_804 ?_
  rw [nI_clamp (show i + 3 < 2 ^ 31 by omega)]
  refine lcM (as := [.int (xs (i + 1)), .int (xs (i + 2)), .int (xs (i + 3))]) (rest := [.int r1]) F (by decide) (by decide) (by decide) rfl ll_X12_join (lPi (wk_X12_join h0)) (Nat.le_of_ble_eq_true rfl) rfl (by simp only [aCat, Value.category]; decide) hW1 hc hs hl.1 dL_805 ?_
  rintro _ B H2 locs2 ⟨r2, rfl, rfl, hv2⟩ hW2
  refine lv_icmp_eq (tgt := 1331) hx hb dL_808 (by decide) (fun _ => ?_) (fun q => absurd rfl q)
  exact k A B H2 locs2 hv2 hW2
set_option maxHeartbeats 4000000 in
theorem lc_20 {Inv : wM → wM → Prop} (hI : lawOk Inv) {i : Nat} (F : LFx p l s m c b L xs D dA adX adM) (hL : L ≤ 3072) (hi : i + 6 ≤ L) (hv : Inv Mx Mm) (hW : LWd D dA adX adM s Mx Mm H locs) (hc : cells ≤ 600000) (hs : slots ≤ 7302250) (hl : lv_has rl 4 [(0, .ref b), (1, .ref (adX 0)), (2, .ref (adM 0)), (3, .int (nI i))])
    (k : ∀ (A B : wM) (H1 : Heap) (locs1 : List Loc), Inv A B → LWd D dA adX adM s A B H1 locs1 → W p l e room_1 s m #[Value.ref b] below meth c H1 locs1 cells slots Q (F0 m 1331 rl [])) : W p l e room_1 s m #[Value.ref b] below meth c H locs cells slots Q (F0 m 813 rl []) := by
  obtain ⟨hx, hb, hml, hown, hts, hX, hbl, -⟩ := id F
  have hbA : ¬ lawA s b := Nat.not_le.mpr hbl
  refine lv_aload_n hx hb dL_813 rfl (lv_at hl 1 rfl) ?_
  refine lv_aload_n hx hb dL_814 rfl (lv_at hl 0 rfl) ?_
  refine lv_iload_n hx hb dL_815 rfl (lv_at hl 3 rfl) ?_
  refine lv_iconst (v := nI 1) hx hb dL_816 (by decide) ?_
  refine lv_iadd hx hb dL_817 ?_
  rw [nI_add]
  refine va_sld hx hb hX hbl hbA hW.2.2.2.2 (vp_in_nI (show i + 1 < L by omega) (by omega)) dL_818 ?_
  rw [nI_clamp (show i + 1 < 2 ^ 31 by omega)]
  refine lv_aload_n hx hb dL_819 rfl (lv_at hl 0 rfl) ?_
  refine lv_iload_n hx hb dL_820 rfl (lv_at hl 3 rfl) ?_
  refine lv_iconst (v := nI 2) hx hb dL_821 (by decide) ?_
  refine lv_iadd hx hb dL_822 ?_
  rw [nI_add]
  refine va_sld hx hb hX hbl hbA hW.2.2.2.2 (vp_in_nI (show i + 2 < L by omega) (by omega)) dL_823 ?_
  rw [nI_clamp (show i + 2 < 2 ^ 31 by omega)]
  have h0 := hI.2.2.2.2.2.2.2.2.2.2.2.2.2.2.2.2.2.2.2.2.1 (xs (i + 1)) (xs (i + 2)) _ _ hv
  refine lcX (as := [.int (xs (i + 1)), .int (xs (i + 2))]) (rest := []) F (by decide) (by decide) (by decide) rfl ll_X11_stick (lPi (wk_X11_stick h0)) (Nat.le_of_ble_eq_true rfl) rfl (by decide) hW hc hs hl.1 dL_824 ?_
  rintro _ A H1 locs1 ⟨r1, rfl, h0⟩ hW1
  refine lv_aload_n hx hb dL_827 rfl (lv_at hl 2 rfl) ?_
  refine lv_aload_n hx hb dL_828 rfl (lv_at hl 0 rfl) ?_
  refine lv_iload_n hx hb dL_829 rfl (lv_at hl 3 rfl) ?_
  refine lv_iconst (v := nI 1) hx hb dL_830 (by decide) ?_
  refine lv_iadd hx hb dL_831 ?_
  rw [nI_add]
  refine va_sld hx hb hX hbl hbA hW1.2.2.2.2 (vp_in_nI (show i + 1 < L by omega) (by omega)) dL_832 ?_
  rw [nI_clamp (show i + 1 < 2 ^ 31 by omega)]
  refine lv_aload_n hx hb dL_833 rfl (lv_at hl 0 rfl) ?_
  refine lv_iload_n hx hb dL_834 rfl (lv_at hl 3 rfl) ?_
  refine lv_iconst (v := nI 2) hx hb dL_835 (by decide) ?_
  refine lv_iadd hx hb dL_836 ?_
  rw [nI_add]
  refine va_sld hx hb hX hbl hbA hW1.2.2.2.2 (vp_in_nI (show i + 2 < L by omega) (by omega)) dL_837 ?_
  rw [nI_clamp (show i + 2 < 2 ^ 31 by omega)]
  refine lcM (as := [.int (xs (i + 1)), .int (xs (i + 2))]) (rest := [.int r1]) F (by decide) (by decide) (by decide) rfl ll_X12_stick (lPi (wk_X12_stick h0)) (Nat.le_of_ble_eq_true rfl) rfl (by simp only [aCat, Value.category]; decide) hW1 hc hs hl.1 dL_838 ?_
  rintro _ B H2 locs2 ⟨r2, rfl, rfl, hv2⟩ hW2
  refine lv_icmp_eq (tgt := 1331) hx hb dL_841 (by decide) (fun _ => ?_) (fun q => absurd rfl q)
  exact k A B H2 locs2 hv2 hW2
set_option maxHeartbeats 4000000 in
theorem lc_21 {Inv : wM → wM → Prop} (hI : lawOk Inv) {i : Nat} (F : LFx p l s m c b L xs D dA adX adM) (hL : L ≤ 3072) (hi : i + 6 ≤ L) (hv : Inv Mx Mm) (hW : LWd D dA adX adM s Mx Mm H locs) (hc : cells ≤ 600000) (hs : slots ≤ 7302250) (hl : lv_has rl 4 [(0, .ref b), (1, .ref (adX 0)), (2, .ref (adM 0)), (3, .int (nI i))])
    (k : ∀ (A B : wM) (H1 : Heap) (locs1 : List Loc), Inv A B → LWd D dA adX adM s A B H1 locs1 → W p l e room_1 s m #[Value.ref b] below meth c H1 locs1 cells slots Q (F0 m 1331 rl [])) : W p l e room_1 s m #[Value.ref b] below meth c H locs cells slots Q (F0 m 846 rl []) := by
  obtain ⟨hx, hb, hml, hown, hts, hX, hbl, -⟩ := id F
  have hbA : ¬ lawA s b := Nat.not_le.mpr hbl
  refine lv_aload_n hx hb dL_846 rfl (lv_at hl 1 rfl) ?_
  refine lv_aload_n hx hb dL_847 rfl (lv_at hl 0 rfl) ?_
  refine lv_iload_n hx hb dL_848 rfl (lv_at hl 3 rfl) ?_
  refine lv_iconst (v := nI 1) hx hb dL_849 (by decide) ?_
  refine lv_iadd hx hb dL_850 ?_
  rw [nI_add]
  refine va_sld hx hb hX hbl hbA hW.2.2.2.2 (vp_in_nI (show i + 1 < L by omega) (by omega)) dL_851 ?_
  rw [nI_clamp (show i + 1 < 2 ^ 31 by omega)]
  refine lv_aload_n hx hb dL_852 rfl (lv_at hl 0 rfl) ?_
  refine lv_iload_n hx hb dL_853 rfl (lv_at hl 3 rfl) ?_
  refine lv_iconst (v := nI 2) hx hb dL_854 (by decide) ?_
  refine lv_iadd hx hb dL_855 ?_
  rw [nI_add]
  refine va_sld hx hb hX hbl hbA hW.2.2.2.2 (vp_in_nI (show i + 2 < L by omega) (by omega)) dL_856 ?_
  rw [nI_clamp (show i + 2 < 2 ^ 31 by omega)]
  refine lv_aload_n hx hb dL_857 rfl (lv_at hl 0 rfl) ?_
  refine lv_iload_n hx hb dL_858 rfl (lv_at hl 3 rfl) ?_
  refine lv_iconst (v := nI 3) hx hb dL_859 (by decide) ?_
  refine lv_iadd hx hb dL_860 ?_
  rw [nI_add]
  refine va_sld hx hb hX hbl hbA hW.2.2.2.2 (vp_in_nI (show i + 3 < L by omega) (by omega)) dL_861 ?_
  rw [nI_clamp (show i + 3 < 2 ^ 31 by omega)]
  have h0 := hI.2.2.2.2.2.2.2.2.2.2.2.2.2.2.2.2.2.2.2.2.2.1 (xs (i + 1)) (xs (i + 2)) (xs (i + 3)) _ _ hv
  refine lcX (as := [.int (xs (i + 1)), .int (xs (i + 2)), .int (xs (i + 3))]) (rest := []) F (by decide) (by decide) (by decide) rfl ll_X11_bridge (lPi (wk_X11_bridge h0)) (Nat.le_of_ble_eq_true rfl) rfl (by decide) hW hc hs hl.1 dL_862 ?_
  rintro _ A H1 locs1 ⟨r1, rfl, h0⟩ hW1
  refine lv_aload_n hx hb dL_865 rfl (lv_at hl 2 rfl) ?_
  refine lv_aload_n hx hb dL_866 rfl (lv_at hl 0 rfl) ?_
  refine lv_iload_n hx hb dL_867 rfl (lv_at hl 3 rfl) ?_
  refine lv_iconst (v := nI 1) hx hb dL_868 (by decide) ?_
  refine lv_iadd hx hb dL_869 ?_
  rw [nI_add]
  refine va_sld hx hb hX hbl hbA hW1.2.2.2.2 (vp_in_nI (show i + 1 < L by omega) (by omega)) dL_870 ?_
  rw [nI_clamp (show i + 1 < 2 ^ 31 by omega)]
  refine lv_aload_n hx hb dL_871 rfl (lv_at hl 0 rfl) ?_
  refine lv_iload_n hx hb dL_872 rfl (lv_at hl 3 rfl) ?_
  refine lv_iconst (v := nI 2) hx hb dL_873 (by decide) ?_
  refine lv_iadd hx hb dL_874 ?_
  rw [nI_add]
  refine va_sld hx hb hX hbl hbA hW1.2.2.2.2 (vp_in_nI (show i + 2 < L by omega) (by omega)) dL_875 ?_
  rw [nI_clamp (show i + 2 < 2 ^ 31 by omega)]
  refine lv_aload_n hx hb dL_876 rfl (lv_at hl 0 rfl) ?_
  refine lv_iload_n hx hb dL_877 rfl (lv_at hl 3 rfl) ?_
  refine lv_iconst (v := nI 3) hx hb dL_878 (by decide) ?_
  refine lv_iadd hx hb dL_879 ?_
  rw [nI_add]
  refine va_sld hx hb hX hbl hbA hW1.2.2.2.2 (vp_in_nI (show i + 3 < L by omega) (by omega)) dL_880 ?_
  rw [nI_clamp (show i + 3 < 2 ^ 31 by omega)]
  refine lcM (as := [.int (xs (i + 1)), .int (xs (i + 2)), .int (xs (i + 3))]) (rest := [.int r1]) F (by decide) (by decide) (by decide) rfl ll_X12_bridge (lPi (wk_X12_bridge h0)) (Nat.le_of_ble_eq_true rfl) rfl (by simp only [aCat, Value.category]; decide) hW1 hc hs hl.1 dL_881 ?_
  rintro _ B H2 locs2 ⟨r2, rfl, rfl, hv2⟩ hW2
  refine lv_icmp_eq (tgt := 1331) hx hb dL_884 (by decide) (fun _ => ?_) (fun q => absurd rfl q)
  exact k A B H2 locs2 hv2 hW2
set_option maxHeartbeats 4000000 in
theorem lc_22 {Inv : wM → wM → Prop} (hI : lawOk Inv) {i : Nat} (F : LFx p l s m c b L xs D dA adX adM) (hL : L ≤ 3072) (hi : i + 6 ≤ L) (hv : Inv Mx Mm) (hW : LWd D dA adX adM s Mx Mm H locs) (hc : cells ≤ 600000) (hs : slots ≤ 7302250) (hl : lv_has rl 4 [(0, .ref b), (1, .ref (adX 0)), (2, .ref (adM 0)), (3, .int (nI i))])
    (k : ∀ (A B : wM) (H1 : Heap) (locs1 : List Loc), Inv A B → LWd D dA adX adM s A B H1 locs1 → W p l e room_1 s m #[Value.ref b] below meth c H1 locs1 cells slots Q (F0 m 1331 rl [])) : W p l e room_1 s m #[Value.ref b] below meth c H locs cells slots Q (F0 m 889 rl []) := by
  obtain ⟨hx, hb, hml, hown, hts, hX, hbl, -⟩ := id F
  have hbA : ¬ lawA s b := Nat.not_le.mpr hbl
  by_cases hz3 : xs (i + 3) = 0
  ·
    refine lv_aload_n hx hb dL_889 rfl (lv_at hl 1 rfl) ?_
    refine lv_aload_n hx hb dL_890 rfl (lv_at hl 0 rfl) ?_
    refine lv_iload_n hx hb dL_891 rfl (lv_at hl 3 rfl) ?_
    refine lv_iconst (v := nI 1) hx hb dL_892 (by decide) ?_
    refine lv_iadd hx hb dL_893 ?_
    rw [nI_add]
    refine va_sld hx hb hX hbl hbA hW.2.2.2.2 (vp_in_nI (show i + 1 < L by omega) (by omega)) dL_894 ?_
    rw [nI_clamp (show i + 1 < 2 ^ 31 by omega)]
    refine lv_aload_n hx hb dL_895 rfl (lv_at hl 0 rfl) ?_
    refine lv_iload_n hx hb dL_896 rfl (lv_at hl 3 rfl) ?_
    refine lv_iconst (v := nI 2) hx hb dL_897 (by decide) ?_
    refine lv_iadd hx hb dL_898 ?_
    rw [nI_add]
    refine va_sld hx hb hX hbl hbA hW.2.2.2.2 (vp_in_nI (show i + 2 < L by omega) (by omega)) dL_899 ?_
    rw [nI_clamp (show i + 2 < 2 ^ 31 by omega)]
    refine lv_aload_n hx hb dL_900 rfl (lv_at hl 0 rfl) ?_
    refine lv_iload_n hx hb dL_901 rfl (lv_at hl 3 rfl) ?_
    refine lv_iconst (v := nI 3) hx hb dL_902 (by decide) ?_
    refine lv_iadd hx hb dL_903 ?_
    rw [nI_add]
    refine va_sld hx hb hX hbl hbA hW.2.2.2.2 (vp_in_nI (show i + 3 < L by omega) (by omega)) dL_904 ?_
    rw [nI_clamp (show i + 3 < 2 ^ 31 by omega)]
    refine lv_if_eq (tgt := 912) hx hb dL_905 (by decide) (fun _ => ?_) (fun q => absurd hz3 q)
    refine lv_iconst (v := nI 0) hx hb dL_912 (by decide) ?_
    have h0 := hI.2.2.2.2.2.2.2.2.2.2.2.2.2.2.2.2.2.2.2.2.2.2.1 (xs (i + 1)) (xs (i + 2)) (nI 0) _ _ hv (Or.inl rfl)
    refine lcX (as := [.int (xs (i + 1)), .int (xs (i + 2)), .int (nI 0)]) (rest := []) F (by decide) (by decide) (by decide) rfl ll_X11_open (lPi (wk_X11_open h0)) (Nat.le_of_ble_eq_true rfl) rfl (by decide) hW hc hs hl.1 dL_913 ?_
    rintro _ A H1 locs1 ⟨r1, rfl, h0⟩ hW1
    refine lv_aload_n hx hb dL_916 rfl (lv_at hl 2 rfl) ?_
    refine lv_aload_n hx hb dL_917 rfl (lv_at hl 0 rfl) ?_
    refine lv_iload_n hx hb dL_918 rfl (lv_at hl 3 rfl) ?_
    refine lv_iconst (v := nI 1) hx hb dL_919 (by decide) ?_
    refine lv_iadd hx hb dL_920 ?_
    rw [nI_add]
    refine va_sld hx hb hX hbl hbA hW1.2.2.2.2 (vp_in_nI (show i + 1 < L by omega) (by omega)) dL_921 ?_
    rw [nI_clamp (show i + 1 < 2 ^ 31 by omega)]
    refine lv_aload_n hx hb dL_922 rfl (lv_at hl 0 rfl) ?_
    refine lv_iload_n hx hb dL_923 rfl (lv_at hl 3 rfl) ?_
    refine lv_iconst (v := nI 2) hx hb dL_924 (by decide) ?_
    refine lv_iadd hx hb dL_925 ?_
    rw [nI_add]
    refine va_sld hx hb hX hbl hbA hW1.2.2.2.2 (vp_in_nI (show i + 2 < L by omega) (by omega)) dL_926 ?_
    rw [nI_clamp (show i + 2 < 2 ^ 31 by omega)]
    refine lv_aload_n hx hb dL_927 rfl (lv_at hl 0 rfl) ?_
    refine lv_iload_n hx hb dL_928 rfl (lv_at hl 3 rfl) ?_
    refine lv_iconst (v := nI 3) hx hb dL_929 (by decide) ?_
    refine lv_iadd hx hb dL_930 ?_
    rw [nI_add]
    refine va_sld hx hb hX hbl hbA hW1.2.2.2.2 (vp_in_nI (show i + 3 < L by omega) (by omega)) dL_931 ?_
    rw [nI_clamp (show i + 3 < 2 ^ 31 by omega)]
    refine lv_if_eq (tgt := 939) hx hb dL_932 (by decide) (fun _ => ?_) (fun q => absurd hz3 q)
    refine lv_iconst (v := nI 0) hx hb dL_939 (by decide) ?_
    refine lcM (as := [.int (xs (i + 1)), .int (xs (i + 2)), .int (nI 0)]) (rest := [.int r1]) F (by decide) (by decide) (by decide) rfl ll_X12_open (lPi (wk_X12_open h0)) (Nat.le_of_ble_eq_true rfl) rfl (by simp only [aCat, Value.category]; decide) hW1 hc hs hl.1 dL_940 ?_
    rintro _ B H2 locs2 ⟨r2, rfl, rfl, hv2⟩ hW2
    refine lv_icmp_eq (tgt := 1331) hx hb dL_943 (by decide) (fun _ => ?_) (fun q => absurd rfl q)
    exact k A B H2 locs2 hv2 hW2
  ·
    refine lv_aload_n hx hb dL_889 rfl (lv_at hl 1 rfl) ?_
    refine lv_aload_n hx hb dL_890 rfl (lv_at hl 0 rfl) ?_
    refine lv_iload_n hx hb dL_891 rfl (lv_at hl 3 rfl) ?_
    refine lv_iconst (v := nI 1) hx hb dL_892 (by decide) ?_
    refine lv_iadd hx hb dL_893 ?_
    rw [nI_add]
    refine va_sld hx hb hX hbl hbA hW.2.2.2.2 (vp_in_nI (show i + 1 < L by omega) (by omega)) dL_894 ?_
    rw [nI_clamp (show i + 1 < 2 ^ 31 by omega)]
    refine lv_aload_n hx hb dL_895 rfl (lv_at hl 0 rfl) ?_
    refine lv_iload_n hx hb dL_896 rfl (lv_at hl 3 rfl) ?_
    refine lv_iconst (v := nI 2) hx hb dL_897 (by decide) ?_
    refine lv_iadd hx hb dL_898 ?_
    rw [nI_add]
    refine va_sld hx hb hX hbl hbA hW.2.2.2.2 (vp_in_nI (show i + 2 < L by omega) (by omega)) dL_899 ?_
    rw [nI_clamp (show i + 2 < 2 ^ 31 by omega)]
    refine lv_aload_n hx hb dL_900 rfl (lv_at hl 0 rfl) ?_
    refine lv_iload_n hx hb dL_901 rfl (lv_at hl 3 rfl) ?_
    refine lv_iconst (v := nI 3) hx hb dL_902 (by decide) ?_
    refine lv_iadd hx hb dL_903 ?_
    rw [nI_add]
    refine va_sld hx hb hX hbl hbA hW.2.2.2.2 (vp_in_nI (show i + 3 < L by omega) (by omega)) dL_904 ?_
    rw [nI_clamp (show i + 3 < 2 ^ 31 by omega)]
    refine lv_if_eq (tgt := 912) hx hb dL_905 (by decide) (fun q => absurd q hz3) (fun _ => ?_)
    refine lv_iconst (v := nI 1) hx hb dL_908 (by decide) ?_
    refine lv_goto (tgt := 913) hx hb dL_909 (by decide) ?_
    have h0 := hI.2.2.2.2.2.2.2.2.2.2.2.2.2.2.2.2.2.2.2.2.2.2.1 (xs (i + 1)) (xs (i + 2)) (nI 1) _ _ hv (Or.inr rfl)
    refine lcX (as := [.int (xs (i + 1)), .int (xs (i + 2)), .int (nI 1)]) (rest := []) F (by decide) (by decide) (by decide) rfl ll_X11_open (lPi (wk_X11_open h0)) (Nat.le_of_ble_eq_true rfl) rfl (by decide) hW hc hs hl.1 dL_913 ?_
    rintro _ A H1 locs1 ⟨r1, rfl, h0⟩ hW1
    refine lv_aload_n hx hb dL_916 rfl (lv_at hl 2 rfl) ?_
    refine lv_aload_n hx hb dL_917 rfl (lv_at hl 0 rfl) ?_
    refine lv_iload_n hx hb dL_918 rfl (lv_at hl 3 rfl) ?_
    refine lv_iconst (v := nI 1) hx hb dL_919 (by decide) ?_
    refine lv_iadd hx hb dL_920 ?_
    rw [nI_add]
    refine va_sld hx hb hX hbl hbA hW1.2.2.2.2 (vp_in_nI (show i + 1 < L by omega) (by omega)) dL_921 ?_
    rw [nI_clamp (show i + 1 < 2 ^ 31 by omega)]
    refine lv_aload_n hx hb dL_922 rfl (lv_at hl 0 rfl) ?_
    refine lv_iload_n hx hb dL_923 rfl (lv_at hl 3 rfl) ?_
    refine lv_iconst (v := nI 2) hx hb dL_924 (by decide) ?_
    refine lv_iadd hx hb dL_925 ?_
    rw [nI_add]
    refine va_sld hx hb hX hbl hbA hW1.2.2.2.2 (vp_in_nI (show i + 2 < L by omega) (by omega)) dL_926 ?_
    rw [nI_clamp (show i + 2 < 2 ^ 31 by omega)]
    refine lv_aload_n hx hb dL_927 rfl (lv_at hl 0 rfl) ?_
    refine lv_iload_n hx hb dL_928 rfl (lv_at hl 3 rfl) ?_
    refine lv_iconst (v := nI 3) hx hb dL_929 (by decide) ?_
    refine lv_iadd hx hb dL_930 ?_
    rw [nI_add]
    refine va_sld hx hb hX hbl hbA hW1.2.2.2.2 (vp_in_nI (show i + 3 < L by omega) (by omega)) dL_931 ?_
    rw [nI_clamp (show i + 3 < 2 ^ 31 by omega)]
    refine lv_if_eq (tgt := 939) hx hb dL_932 (by decide) (fun q => absurd q hz3) (fun _ => ?_)
    refine lv_iconst (v := nI 1) hx hb dL_935 (by decide) ?_
    refine lv_goto (tgt := 940) hx hb dL_936 (by decide) ?_
    refine lcM (as := [.int (xs (i + 1)), .int (xs (i + 2)), .int (nI 1)]) (rest := [.int r1]) F (by decide) (by decide) (by decide) rfl ll_X12_open (lPi (wk_X12_open h0)) (Nat.le_of_ble_eq_true rfl) rfl (by simp only [aCat, Value.category]; decide) hW1 hc hs hl.1 dL_940 ?_
    rintro _ B H2 locs2 ⟨r2, rfl, rfl, hv2⟩ hW2
    refine lv_icmp_eq (tgt := 1331) hx hb dL_943 (by decide) (fun _ => ?_) (fun q => absurd rfl q)
    exact k A B H2 locs2 hv2 hW2
set_option maxHeartbeats 4000000 in
theorem lc_23 {Inv : wM → wM → Prop} (hI : lawOk Inv) {i : Nat} (F : LFx p l s m c b L xs D dA adX adM) (hL : L ≤ 3072) (hi : i + 6 ≤ L) (hv : Inv Mx Mm) (hW : LWd D dA adX adM s Mx Mm H locs) (hc : cells ≤ 600000) (hs : slots ≤ 7302250) (hl : lv_has rl 4 [(0, .ref b), (1, .ref (adX 0)), (2, .ref (adM 0)), (3, .int (nI i))])
    (k : ∀ (A B : wM) (H1 : Heap) (locs1 : List Loc), Inv A B → LWd D dA adX adM s A B H1 locs1 → W p l e room_1 s m #[Value.ref b] below meth c H1 locs1 cells slots Q (F0 m 1331 rl [])) : W p l e room_1 s m #[Value.ref b] below meth c H locs cells slots Q (F0 m 948 rl []) := by
  obtain ⟨hx, hb, hml, hown, hts, hX, hbl, -⟩ := id F
  have hbA : ¬ lawA s b := Nat.not_le.mpr hbl
  refine lv_aload_n hx hb dL_948 rfl (lv_at hl 1 rfl) ?_
  refine lv_aload_n hx hb dL_949 rfl (lv_at hl 0 rfl) ?_
  refine lv_iload_n hx hb dL_950 rfl (lv_at hl 3 rfl) ?_
  refine lv_iconst (v := nI 1) hx hb dL_951 (by decide) ?_
  refine lv_iadd hx hb dL_952 ?_
  rw [nI_add]
  refine va_sld hx hb hX hbl hbA hW.2.2.2.2 (vp_in_nI (show i + 1 < L by omega) (by omega)) dL_953 ?_
  rw [nI_clamp (show i + 1 < 2 ^ 31 by omega)]
  refine lv_aload_n hx hb dL_954 rfl (lv_at hl 0 rfl) ?_
  refine lv_iload_n hx hb dL_955 rfl (lv_at hl 3 rfl) ?_
  refine lv_iconst (v := nI 2) hx hb dL_956 (by decide) ?_
  refine lv_iadd hx hb dL_957 ?_
  rw [nI_add]
  refine va_sld hx hb hX hbl hbA hW.2.2.2.2 (vp_in_nI (show i + 2 < L by omega) (by omega)) dL_958 ?_
  rw [nI_clamp (show i + 2 < 2 ^ 31 by omega)]
  have h0 := hI.2.2.2.2.2.2.2.2.2.2.2.2.2.2.2.2.2.2.2.2.2.2.2.1 (xs (i + 1)) (xs (i + 2)) _ _ hv
  refine lcX (as := [.int (xs (i + 1)), .int (xs (i + 2))]) (rest := []) F (by decide) (by decide) (by decide) rfl ll_X11_netOf (lPi (wk_X11_netOf h0)) (Nat.le_of_ble_eq_true rfl) rfl (by decide) hW hc hs hl.1 dL_959 ?_
  rintro _ A H1 locs1 ⟨r1, rfl, h0⟩ hW1
  refine lv_aload_n hx hb dL_962 rfl (lv_at hl 2 rfl) ?_
  refine lv_aload_n hx hb dL_963 rfl (lv_at hl 0 rfl) ?_
  refine lv_iload_n hx hb dL_964 rfl (lv_at hl 3 rfl) ?_
  refine lv_iconst (v := nI 1) hx hb dL_965 (by decide) ?_
  refine lv_iadd hx hb dL_966 ?_
  rw [nI_add]
  refine va_sld hx hb hX hbl hbA hW1.2.2.2.2 (vp_in_nI (show i + 1 < L by omega) (by omega)) dL_967 ?_
  rw [nI_clamp (show i + 1 < 2 ^ 31 by omega)]
  refine lv_aload_n hx hb dL_968 rfl (lv_at hl 0 rfl) ?_
  refine lv_iload_n hx hb dL_969 rfl (lv_at hl 3 rfl) ?_
  refine lv_iconst (v := nI 2) hx hb dL_970 (by decide) ?_
  refine lv_iadd hx hb dL_971 ?_
  rw [nI_add]
  refine va_sld hx hb hX hbl hbA hW1.2.2.2.2 (vp_in_nI (show i + 2 < L by omega) (by omega)) dL_972 ?_
  rw [nI_clamp (show i + 2 < 2 ^ 31 by omega)]
  refine lcM (as := [.int (xs (i + 1)), .int (xs (i + 2))]) (rest := [.int r1]) F (by decide) (by decide) (by decide) rfl ll_X12_netOf (lPi (wk_X12_netOf h0)) (Nat.le_of_ble_eq_true rfl) rfl (by simp only [aCat, Value.category]; decide) hW1 hc hs hl.1 dL_973 ?_
  rintro _ B H2 locs2 ⟨r2, rfl, rfl, hv2⟩ hW2
  refine lv_icmp_eq (tgt := 1331) hx hb dL_976 (by decide) (fun _ => ?_) (fun q => absurd rfl q)
  exact k A B H2 locs2 hv2 hW2
set_option maxHeartbeats 4000000 in
theorem lc_24 {Inv : wM → wM → Prop} (hI : lawOk Inv) {i : Nat} (F : LFx p l s m c b L xs D dA adX adM) (hL : L ≤ 3072) (hi : i + 6 ≤ L) (hv : Inv Mx Mm) (hW : LWd D dA adX adM s Mx Mm H locs) (hc : cells ≤ 600000) (hs : slots ≤ 7302250) (hl : lv_has rl 4 [(0, .ref b), (1, .ref (adX 0)), (2, .ref (adM 0)), (3, .int (nI i))])
    (k : ∀ (A B : wM) (H1 : Heap) (locs1 : List Loc), Inv A B → LWd D dA adX adM s A B H1 locs1 → W p l e room_1 s m #[Value.ref b] below meth c H1 locs1 cells slots Q (F0 m 1331 rl [])) : W p l e room_1 s m #[Value.ref b] below meth c H locs cells slots Q (F0 m 981 rl []) := by
  obtain ⟨hx, hb, hml, hown, hts, hX, hbl, -⟩ := id F
  have hbA : ¬ lawA s b := Nat.not_le.mpr hbl
  refine lv_aload_n hx hb dL_981 rfl (lv_at hl 1 rfl) ?_
  refine lv_aload_n hx hb dL_982 rfl (lv_at hl 0 rfl) ?_
  refine lv_iload_n hx hb dL_983 rfl (lv_at hl 3 rfl) ?_
  refine lv_iconst (v := nI 1) hx hb dL_984 (by decide) ?_
  refine lv_iadd hx hb dL_985 ?_
  rw [nI_add]
  refine va_sld hx hb hX hbl hbA hW.2.2.2.2 (vp_in_nI (show i + 1 < L by omega) (by omega)) dL_986 ?_
  rw [nI_clamp (show i + 1 < 2 ^ 31 by omega)]
  have h0 := hI.2.2.2.2.2.2.2.2.2.2.2.2.2.2.2.2.2.2.2.2.2.2.2.2.1 (xs (i + 1)) _ _ hv
  refine lcX (as := [.int (xs (i + 1))]) (rest := []) F (by decide) (by decide) (by decide) rfl ll_X11_rows (lPi (wk_X11_rows h0)) (Nat.le_of_ble_eq_true rfl) rfl (by decide) hW hc hs hl.1 dL_987 ?_
  rintro _ A H1 locs1 ⟨r1, rfl, h0⟩ hW1
  refine lv_aload_n hx hb dL_990 rfl (lv_at hl 2 rfl) ?_
  refine lv_aload_n hx hb dL_991 rfl (lv_at hl 0 rfl) ?_
  refine lv_iload_n hx hb dL_992 rfl (lv_at hl 3 rfl) ?_
  refine lv_iconst (v := nI 1) hx hb dL_993 (by decide) ?_
  refine lv_iadd hx hb dL_994 ?_
  rw [nI_add]
  refine va_sld hx hb hX hbl hbA hW1.2.2.2.2 (vp_in_nI (show i + 1 < L by omega) (by omega)) dL_995 ?_
  rw [nI_clamp (show i + 1 < 2 ^ 31 by omega)]
  refine lcM (as := [.int (xs (i + 1))]) (rest := [.int r1]) F (by decide) (by decide) (by decide) rfl ll_X12_rows (lPi (wk_X12_rows h0)) (Nat.le_of_ble_eq_true rfl) rfl (by simp only [aCat, Value.category]; decide) hW1 hc hs hl.1 dL_996 ?_
  rintro _ B H2 locs2 ⟨r2, rfl, rfl, hv2⟩ hW2
  refine lv_icmp_eq (tgt := 1331) hx hb dL_999 (by decide) (fun _ => ?_) (fun q => absurd rfl q)
  exact k A B H2 locs2 hv2 hW2
set_option maxHeartbeats 4000000 in
theorem lc_25 {Inv : wM → wM → Prop} (hI : lawOk Inv) {i : Nat} (F : LFx p l s m c b L xs D dA adX adM) (hL : L ≤ 3072) (hi : i + 6 ≤ L) (hv : Inv Mx Mm) (hW : LWd D dA adX adM s Mx Mm H locs) (hc : cells ≤ 600000) (hs : slots ≤ 7302250) (hl : lv_has rl 4 [(0, .ref b), (1, .ref (adX 0)), (2, .ref (adM 0)), (3, .int (nI i))])
    (k : ∀ (A B : wM) (H1 : Heap) (locs1 : List Loc), Inv A B → LWd D dA adX adM s A B H1 locs1 → W p l e room_1 s m #[Value.ref b] below meth c H1 locs1 cells slots Q (F0 m 1331 rl [])) : W p l e room_1 s m #[Value.ref b] below meth c H locs cells slots Q (F0 m 1004 rl []) := by
  obtain ⟨hx, hb, hml, hown, hts, hX, hbl, -⟩ := id F
  have hbA : ¬ lawA s b := Nat.not_le.mpr hbl
  refine lv_aload_n hx hb dL_1004 rfl (lv_at hl 1 rfl) ?_
  refine lv_aload_n hx hb dL_1005 rfl (lv_at hl 0 rfl) ?_
  refine lv_iload_n hx hb dL_1006 rfl (lv_at hl 3 rfl) ?_
  refine lv_iconst (v := nI 1) hx hb dL_1007 (by decide) ?_
  refine lv_iadd hx hb dL_1008 ?_
  rw [nI_add]
  refine va_sld hx hb hX hbl hbA hW.2.2.2.2 (vp_in_nI (show i + 1 < L by omega) (by omega)) dL_1009 ?_
  rw [nI_clamp (show i + 1 < 2 ^ 31 by omega)]
  refine lv_aload_n hx hb dL_1010 rfl (lv_at hl 0 rfl) ?_
  refine lv_iload_n hx hb dL_1011 rfl (lv_at hl 3 rfl) ?_
  refine lv_iconst (v := nI 2) hx hb dL_1012 (by decide) ?_
  refine lv_iadd hx hb dL_1013 ?_
  rw [nI_add]
  refine va_sld hx hb hX hbl hbA hW.2.2.2.2 (vp_in_nI (show i + 2 < L by omega) (by omega)) dL_1014 ?_
  rw [nI_clamp (show i + 2 < 2 ^ 31 by omega)]
  refine lv_aload_n hx hb dL_1015 rfl (lv_at hl 0 rfl) ?_
  refine lv_iload_n hx hb dL_1016 rfl (lv_at hl 3 rfl) ?_
  refine lv_iconst (v := nI 3) hx hb dL_1017 (by decide) ?_
  refine lv_iadd hx hb dL_1018 ?_
  rw [nI_add]
  refine va_sld hx hb hX hbl hbA hW.2.2.2.2 (vp_in_nI (show i + 3 < L by omega) (by omega)) dL_1019 ?_
  rw [nI_clamp (show i + 3 < 2 ^ 31 by omega)]
  have h0 := hI.2.2.2.2.2.2.2.2.2.2.2.2.2.2.2.2.2.2.2.2.2.2.2.2.2.1 (xs (i + 1)) (xs (i + 2)) (xs (i + 3)) _ _ hv
  refine lcX (as := [.int (xs (i + 1)), .int (xs (i + 2)), .int (xs (i + 3))]) (rest := []) F (by decide) (by decide) (by decide) rfl ll_X11_word (lPi (wk_X11_word h0)) (Nat.le_of_ble_eq_true rfl) rfl (by decide) hW hc hs hl.1 dL_1020 ?_
  rintro _ A H1 locs1 ⟨r1, rfl, h0⟩ hW1
  refine lv_aload_n hx hb dL_1023 rfl (lv_at hl 2 rfl) ?_
  refine lv_aload_n hx hb dL_1024 rfl (lv_at hl 0 rfl) ?_
  refine lv_iload_n hx hb dL_1025 rfl (lv_at hl 3 rfl) ?_
  refine lv_iconst (v := nI 1) hx hb dL_1026 (by decide) ?_
  refine lv_iadd hx hb dL_1027 ?_
  rw [nI_add]
  refine va_sld hx hb hX hbl hbA hW1.2.2.2.2 (vp_in_nI (show i + 1 < L by omega) (by omega)) dL_1028 ?_
  rw [nI_clamp (show i + 1 < 2 ^ 31 by omega)]
  refine lv_aload_n hx hb dL_1029 rfl (lv_at hl 0 rfl) ?_
  refine lv_iload_n hx hb dL_1030 rfl (lv_at hl 3 rfl) ?_
  refine lv_iconst (v := nI 2) hx hb dL_1031 (by decide) ?_
  refine lv_iadd hx hb dL_1032 ?_
  rw [nI_add]
  refine va_sld hx hb hX hbl hbA hW1.2.2.2.2 (vp_in_nI (show i + 2 < L by omega) (by omega)) dL_1033 ?_
  rw [nI_clamp (show i + 2 < 2 ^ 31 by omega)]
  refine lv_aload_n hx hb dL_1034 rfl (lv_at hl 0 rfl) ?_
  refine lv_iload_n hx hb dL_1035 rfl (lv_at hl 3 rfl) ?_
  refine lv_iconst (v := nI 3) hx hb dL_1036 (by decide) ?_
  refine lv_iadd hx hb dL_1037 ?_
  rw [nI_add]
  refine va_sld hx hb hX hbl hbA hW1.2.2.2.2 (vp_in_nI (show i + 3 < L by omega) (by omega)) dL_1038 ?_
  rw [nI_clamp (show i + 3 < 2 ^ 31 by omega)]
  refine lcM (as := [.int (xs (i + 1)), .int (xs (i + 2)), .int (xs (i + 3))]) (rest := [.int r1]) F (by decide) (by decide) (by decide) rfl ll_X12_word (lPi (wk_X12_word h0)) (Nat.le_of_ble_eq_true rfl) rfl (by simp only [aCat, Value.category]; decide) hW1 hc hs hl.1 dL_1039 ?_
  rintro _ B H2 locs2 ⟨r2, rfl, rfl, hv2⟩ hW2
  refine lv_icmp_eq (tgt := 1331) hx hb dL_1042 (by decide) (fun _ => ?_) (fun q => absurd rfl q)
  exact k A B H2 locs2 hv2 hW2
set_option maxHeartbeats 4000000 in
theorem lc_26 {Inv : wM → wM → Prop} (hI : lawOk Inv) {i : Nat} (F : LFx p l s m c b L xs D dA adX adM) (hL : L ≤ 3072) (hi : i + 6 ≤ L) (hv : Inv Mx Mm) (hW : LWd D dA adX adM s Mx Mm H locs) (hc : cells ≤ 600000) (hs : slots ≤ 7302250) (hl : lv_has rl 4 [(0, .ref b), (1, .ref (adX 0)), (2, .ref (adM 0)), (3, .int (nI i))])
    (k : ∀ (A B : wM) (H1 : Heap) (locs1 : List Loc), Inv A B → LWd D dA adX adM s A B H1 locs1 → W p l e room_1 s m #[Value.ref b] below meth c H1 locs1 cells slots Q (F0 m 1331 rl [])) : W p l e room_1 s m #[Value.ref b] below meth c H locs cells slots Q (F0 m 1047 rl []) := by
  obtain ⟨hx, hb, hml, hown, hts, hX, hbl, -⟩ := id F
  have hbA : ¬ lawA s b := Nat.not_le.mpr hbl
  refine lv_aload_n hx hb dL_1047 rfl (lv_at hl 1 rfl) ?_
  refine lv_aload_n hx hb dL_1048 rfl (lv_at hl 0 rfl) ?_
  refine lv_iload_n hx hb dL_1049 rfl (lv_at hl 3 rfl) ?_
  refine lv_iconst (v := nI 1) hx hb dL_1050 (by decide) ?_
  refine lv_iadd hx hb dL_1051 ?_
  rw [nI_add]
  refine va_sld hx hb hX hbl hbA hW.2.2.2.2 (vp_in_nI (show i + 1 < L by omega) (by omega)) dL_1052 ?_
  rw [nI_clamp (show i + 1 < 2 ^ 31 by omega)]
  refine lv_aload_n hx hb dL_1053 rfl (lv_at hl 0 rfl) ?_
  refine lv_iload_n hx hb dL_1054 rfl (lv_at hl 3 rfl) ?_
  refine lv_iconst (v := nI 2) hx hb dL_1055 (by decide) ?_
  refine lv_iadd hx hb dL_1056 ?_
  rw [nI_add]
  refine va_sld hx hb hX hbl hbA hW.2.2.2.2 (vp_in_nI (show i + 2 < L by omega) (by omega)) dL_1057 ?_
  rw [nI_clamp (show i + 2 < 2 ^ 31 by omega)]
  refine lv_aload_n hx hb dL_1058 rfl (lv_at hl 0 rfl) ?_
  refine lv_iload_n hx hb dL_1059 rfl (lv_at hl 3 rfl) ?_
  refine lv_iconst (v := nI 3) hx hb dL_1060 (by decide) ?_
  refine lv_iadd hx hb dL_1061 ?_
  rw [nI_add]
  refine va_sld hx hb hX hbl hbA hW.2.2.2.2 (vp_in_nI (show i + 3 < L by omega) (by omega)) dL_1062 ?_
  rw [nI_clamp (show i + 3 < 2 ^ 31 by omega)]
  refine lv_aload_n hx hb dL_1063 rfl (lv_at hl 0 rfl) ?_
  refine lv_iload_n hx hb dL_1064 rfl (lv_at hl 3 rfl) ?_
  refine lv_iconst (v := nI 4) hx hb dL_1065 (by decide) ?_
  refine lv_iadd hx hb dL_1066 ?_
  rw [nI_add]
  refine va_sld hx hb hX hbl hbA hW.2.2.2.2 (vp_in_nI (show i + 4 < L by omega) (by omega)) dL_1067 ?_
  rw [nI_clamp (show i + 4 < 2 ^ 31 by omega)]
  have h0 := hI.2.2.2.2.2.2.2.2.2.2.2.2.2.2.2.2.2.2.2.2.2.2.2.2.2.2.1 (xs (i + 1)) (xs (i + 2)) (xs (i + 3)) (xs (i + 4)) _ _ hv
  refine lcX (as := [.int (xs (i + 1)), .int (xs (i + 2)), .int (xs (i + 3)), .int (xs (i + 4))]) (rest := []) F (by decide) (by decide) (by decide) rfl ll_X11_answer (lPi (wk_X11_answer h0)) (Nat.le_of_ble_eq_true rfl) rfl (by decide) hW hc hs hl.1 dL_1068 ?_
  rintro _ A H1 locs1 ⟨r1, rfl, h0⟩ hW1
  refine lv_aload_n hx hb dL_1071 rfl (lv_at hl 2 rfl) ?_
  refine lv_aload_n hx hb dL_1072 rfl (lv_at hl 0 rfl) ?_
  refine lv_iload_n hx hb dL_1073 rfl (lv_at hl 3 rfl) ?_
  refine lv_iconst (v := nI 1) hx hb dL_1074 (by decide) ?_
  refine lv_iadd hx hb dL_1075 ?_
  rw [nI_add]
  refine va_sld hx hb hX hbl hbA hW1.2.2.2.2 (vp_in_nI (show i + 1 < L by omega) (by omega)) dL_1076 ?_
  rw [nI_clamp (show i + 1 < 2 ^ 31 by omega)]
  refine lv_aload_n hx hb dL_1077 rfl (lv_at hl 0 rfl) ?_
  refine lv_iload_n hx hb dL_1078 rfl (lv_at hl 3 rfl) ?_
  refine lv_iconst (v := nI 2) hx hb dL_1079 (by decide) ?_
  refine lv_iadd hx hb dL_1080 ?_
  rw [nI_add]
  refine va_sld hx hb hX hbl hbA hW1.2.2.2.2 (vp_in_nI (show i + 2 < L by omega) (by omega)) dL_1081 ?_
  rw [nI_clamp (show i + 2 < 2 ^ 31 by omega)]
  refine lv_aload_n hx hb dL_1082 rfl (lv_at hl 0 rfl) ?_
  refine lv_iload_n hx hb dL_1083 rfl (lv_at hl 3 rfl) ?_
  refine lv_iconst (v := nI 3) hx hb dL_1084 (by decide) ?_
  refine lv_iadd hx hb dL_1085 ?_
  rw [nI_add]
  refine va_sld hx hb hX hbl hbA hW1.2.2.2.2 (vp_in_nI (show i + 3 < L by omega) (by omega)) dL_1086 ?_
  rw [nI_clamp (show i + 3 < 2 ^ 31 by omega)]
  refine lv_aload_n hx hb dL_1087 rfl (lv_at hl 0 rfl) ?_
  refine lv_iload_n hx hb dL_1088 rfl (lv_at hl 3 rfl) ?_
  refine lv_iconst (v := nI 4) hx hb dL_1089 (by decide) ?_
  refine lv_iadd hx hb dL_1090 ?_
  rw [nI_add]
  refine va_sld hx hb hX hbl hbA hW1.2.2.2.2 (vp_in_nI (show i + 4 < L by omega) (by omega)) dL_1091 ?_
  rw [nI_clamp (show i + 4 < 2 ^ 31 by omega)]
  refine lcM (as := [.int (xs (i + 1)), .int (xs (i + 2)), .int (xs (i + 3)), .int (xs (i + 4))]) (rest := [.int r1]) F (by decide) (by decide) (by decide) rfl ll_X12_answer (lPi (wk_X12_answer h0)) (Nat.le_of_ble_eq_true rfl) rfl (by simp only [aCat, Value.category]; decide) hW1 hc hs hl.1 dL_1092 ?_
  rintro _ B H2 locs2 ⟨r2, rfl, rfl, hv2⟩ hW2
  refine lv_icmp_eq (tgt := 1331) hx hb dL_1095 (by decide) (fun _ => ?_) (fun q => absurd rfl q)
  exact k A B H2 locs2 hv2 hW2
set_option maxHeartbeats 4000000 in
theorem lc_27 {Inv : wM → wM → Prop} (hI : lawOk Inv) {i : Nat} (F : LFx p l s m c b L xs D dA adX adM) (hL : L ≤ 3072) (hi : i + 6 ≤ L) (hv : Inv Mx Mm) (hW : LWd D dA adX adM s Mx Mm H locs) (hc : cells ≤ 600000) (hs : slots ≤ 7302250) (hl : lv_has rl 4 [(0, .ref b), (1, .ref (adX 0)), (2, .ref (adM 0)), (3, .int (nI i))])
    (k : ∀ (A B : wM) (H1 : Heap) (locs1 : List Loc), Inv A B → LWd D dA adX adM s A B H1 locs1 → W p l e room_1 s m #[Value.ref b] below meth c H1 locs1 cells slots Q (F0 m 1331 rl [])) : W p l e room_1 s m #[Value.ref b] below meth c H locs cells slots Q (F0 m 1100 rl []) := by
  obtain ⟨hx, hb, hml, hown, hts, hX, hbl, -⟩ := id F
  have hbA : ¬ lawA s b := Nat.not_le.mpr hbl
  refine lv_aload_n hx hb dL_1100 rfl (lv_at hl 1 rfl) ?_
  refine lv_aload_n hx hb dL_1101 rfl (lv_at hl 0 rfl) ?_
  refine lv_iload_n hx hb dL_1102 rfl (lv_at hl 3 rfl) ?_
  refine lv_iconst (v := nI 1) hx hb dL_1103 (by decide) ?_
  refine lv_iadd hx hb dL_1104 ?_
  rw [nI_add]
  refine va_sld hx hb hX hbl hbA hW.2.2.2.2 (vp_in_nI (show i + 1 < L by omega) (by omega)) dL_1105 ?_
  rw [nI_clamp (show i + 1 < 2 ^ 31 by omega)]
  refine lv_aload_n hx hb dL_1106 rfl (lv_at hl 0 rfl) ?_
  refine lv_iload_n hx hb dL_1107 rfl (lv_at hl 3 rfl) ?_
  refine lv_iconst (v := nI 2) hx hb dL_1108 (by decide) ?_
  refine lv_iadd hx hb dL_1109 ?_
  rw [nI_add]
  refine va_sld hx hb hX hbl hbA hW.2.2.2.2 (vp_in_nI (show i + 2 < L by omega) (by omega)) dL_1110 ?_
  rw [nI_clamp (show i + 2 < 2 ^ 31 by omega)]
  have h0 := hI.2.2.2.2.2.2.2.2.2.2.2.2.2.2.2.2.2.2.2.2.2.2.2.2.2.2.2.1 (xs (i + 1)) (xs (i + 2)) _ _ hv
  refine lcX (as := [.int (xs (i + 1)), .int (xs (i + 2))]) (rest := []) F (by decide) (by decide) (by decide) rfl ll_X11_likely (lPi (wk_X11_likely h0)) (Nat.le_of_ble_eq_true rfl) rfl (by decide) hW hc hs hl.1 dL_1111 ?_
  rintro _ A H1 locs1 ⟨r1, rfl, h0⟩ hW1
  refine lv_aload_n hx hb dL_1114 rfl (lv_at hl 2 rfl) ?_
  refine lv_aload_n hx hb dL_1115 rfl (lv_at hl 0 rfl) ?_
  refine lv_iload_n hx hb dL_1116 rfl (lv_at hl 3 rfl) ?_
  refine lv_iconst (v := nI 1) hx hb dL_1117 (by decide) ?_
  refine lv_iadd hx hb dL_1118 ?_
  rw [nI_add]
  refine va_sld hx hb hX hbl hbA hW1.2.2.2.2 (vp_in_nI (show i + 1 < L by omega) (by omega)) dL_1119 ?_
  rw [nI_clamp (show i + 1 < 2 ^ 31 by omega)]
  refine lv_aload_n hx hb dL_1120 rfl (lv_at hl 0 rfl) ?_
  refine lv_iload_n hx hb dL_1121 rfl (lv_at hl 3 rfl) ?_
  refine lv_iconst (v := nI 2) hx hb dL_1122 (by decide) ?_
  refine lv_iadd hx hb dL_1123 ?_
  rw [nI_add]
  refine va_sld hx hb hX hbl hbA hW1.2.2.2.2 (vp_in_nI (show i + 2 < L by omega) (by omega)) dL_1124 ?_
  rw [nI_clamp (show i + 2 < 2 ^ 31 by omega)]
  refine lcM (as := [.int (xs (i + 1)), .int (xs (i + 2))]) (rest := [.int r1]) F (by decide) (by decide) (by decide) rfl ll_X12_likely (lPi (wk_X12_likely h0)) (Nat.le_of_ble_eq_true rfl) rfl (by simp only [aCat, Value.category]; decide) hW1 hc hs hl.1 dL_1125 ?_
  rintro _ B H2 locs2 ⟨r2, rfl, rfl, hv2⟩ hW2
  refine lv_icmp_eq (tgt := 1331) hx hb dL_1128 (by decide) (fun _ => ?_) (fun q => absurd rfl q)
  exact k A B H2 locs2 hv2 hW2
set_option maxHeartbeats 4000000 in
theorem lc_28 {Inv : wM → wM → Prop} (hI : lawOk Inv) {i : Nat} (F : LFx p l s m c b L xs D dA adX adM) (hL : L ≤ 3072) (hi : i + 6 ≤ L) (hv : Inv Mx Mm) (hW : LWd D dA adX adM s Mx Mm H locs) (hc : cells ≤ 600000) (hs : slots ≤ 7302250) (hl : lv_has rl 4 [(0, .ref b), (1, .ref (adX 0)), (2, .ref (adM 0)), (3, .int (nI i))])
    (k : ∀ (A B : wM) (H1 : Heap) (locs1 : List Loc), Inv A B → LWd D dA adX adM s A B H1 locs1 → W p l e room_1 s m #[Value.ref b] below meth c H1 locs1 cells slots Q (F0 m 1331 rl [])) : W p l e room_1 s m #[Value.ref b] below meth c H locs cells slots Q (F0 m 1133 rl []) := by
  obtain ⟨hx, hb, hml, hown, hts, hX, hbl, -⟩ := id F
  have hbA : ¬ lawA s b := Nat.not_le.mpr hbl
  refine lv_aload_n hx hb dL_1133 rfl (lv_at hl 1 rfl) ?_
  refine lv_aload_n hx hb dL_1134 rfl (lv_at hl 0 rfl) ?_
  refine lv_iload_n hx hb dL_1135 rfl (lv_at hl 3 rfl) ?_
  refine lv_iconst (v := nI 1) hx hb dL_1136 (by decide) ?_
  refine lv_iadd hx hb dL_1137 ?_
  rw [nI_add]
  refine va_sld hx hb hX hbl hbA hW.2.2.2.2 (vp_in_nI (show i + 1 < L by omega) (by omega)) dL_1138 ?_
  rw [nI_clamp (show i + 1 < 2 ^ 31 by omega)]
  refine lv_aload_n hx hb dL_1139 rfl (lv_at hl 0 rfl) ?_
  refine lv_iload_n hx hb dL_1140 rfl (lv_at hl 3 rfl) ?_
  refine lv_iconst (v := nI 2) hx hb dL_1141 (by decide) ?_
  refine lv_iadd hx hb dL_1142 ?_
  rw [nI_add]
  refine va_sld hx hb hX hbl hbA hW.2.2.2.2 (vp_in_nI (show i + 2 < L by omega) (by omega)) dL_1143 ?_
  rw [nI_clamp (show i + 2 < 2 ^ 31 by omega)]
  have h0 := hI.2.2.2.2.2.2.2.2.2.2.2.2.2.2.2.2.2.2.2.2.2.2.2.2.2.2.2.2.1 (xs (i + 1)) (xs (i + 2)) _ _ hv
  refine lcX (as := [.int (xs (i + 1)), .int (xs (i + 2))]) (rest := []) F (by decide) (by decide) (by decide) rfl ll_X11_blind (lPi (wk_X11_blind h0)) (Nat.le_of_ble_eq_true rfl) rfl (by decide) hW hc hs hl.1 dL_1144 ?_
  rintro _ A H1 locs1 ⟨r1, rfl, h0⟩ hW1
  refine lv_aload_n hx hb dL_1147 rfl (lv_at hl 2 rfl) ?_
  refine lv_aload_n hx hb dL_1148 rfl (lv_at hl 0 rfl) ?_
  refine lv_iload_n hx hb dL_1149 rfl (lv_at hl 3 rfl) ?_
  refine lv_iconst (v := nI 1) hx hb dL_1150 (by decide) ?_
  refine lv_iadd hx hb dL_1151 ?_
  rw [nI_add]
  refine va_sld hx hb hX hbl hbA hW1.2.2.2.2 (vp_in_nI (show i + 1 < L by omega) (by omega)) dL_1152 ?_
  rw [nI_clamp (show i + 1 < 2 ^ 31 by omega)]
  refine lv_aload_n hx hb dL_1153 rfl (lv_at hl 0 rfl) ?_
  refine lv_iload_n hx hb dL_1154 rfl (lv_at hl 3 rfl) ?_
  refine lv_iconst (v := nI 2) hx hb dL_1155 (by decide) ?_
  refine lv_iadd hx hb dL_1156 ?_
  rw [nI_add]
  refine va_sld hx hb hX hbl hbA hW1.2.2.2.2 (vp_in_nI (show i + 2 < L by omega) (by omega)) dL_1157 ?_
  rw [nI_clamp (show i + 2 < 2 ^ 31 by omega)]
  refine lcM (as := [.int (xs (i + 1)), .int (xs (i + 2))]) (rest := [.int r1]) F (by decide) (by decide) (by decide) rfl ll_X12_blind (lPi (wk_X12_blind h0)) (Nat.le_of_ble_eq_true rfl) rfl (by simp only [aCat, Value.category]; decide) hW1 hc hs hl.1 dL_1158 ?_
  rintro _ B H2 locs2 ⟨r2, rfl, rfl, hv2⟩ hW2
  refine lv_icmp_eq (tgt := 1331) hx hb dL_1161 (by decide) (fun _ => ?_) (fun q => absurd rfl q)
  exact k A B H2 locs2 hv2 hW2
set_option maxHeartbeats 4000000 in
theorem lc_29 {Inv : wM → wM → Prop} (hI : lawOk Inv) {i : Nat} (F : LFx p l s m c b L xs D dA adX adM) (hL : L ≤ 3072) (hi : i + 6 ≤ L) (hv : Inv Mx Mm) (hW : LWd D dA adX adM s Mx Mm H locs) (hc : cells ≤ 600000) (hs : slots ≤ 7302250) (hl : lv_has rl 4 [(0, .ref b), (1, .ref (adX 0)), (2, .ref (adM 0)), (3, .int (nI i))])
    (k : ∀ (A B : wM) (H1 : Heap) (locs1 : List Loc), Inv A B → LWd D dA adX adM s A B H1 locs1 → W p l e room_1 s m #[Value.ref b] below meth c H1 locs1 cells slots Q (F0 m 1331 rl [])) : W p l e room_1 s m #[Value.ref b] below meth c H locs cells slots Q (F0 m 1166 rl []) := by
  obtain ⟨hx, hb, hml, hown, hts, hX, hbl, -⟩ := id F
  have hbA : ¬ lawA s b := Nat.not_le.mpr hbl
  refine lv_aload_n hx hb dL_1166 rfl (lv_at hl 1 rfl) ?_
  refine lv_aload_n hx hb dL_1167 rfl (lv_at hl 0 rfl) ?_
  refine lv_iload_n hx hb dL_1168 rfl (lv_at hl 3 rfl) ?_
  refine lv_iconst (v := nI 1) hx hb dL_1169 (by decide) ?_
  refine lv_iadd hx hb dL_1170 ?_
  rw [nI_add]
  refine va_sld hx hb hX hbl hbA hW.2.2.2.2 (vp_in_nI (show i + 1 < L by omega) (by omega)) dL_1171 ?_
  rw [nI_clamp (show i + 1 < 2 ^ 31 by omega)]
  refine lv_aload_n hx hb dL_1172 rfl (lv_at hl 0 rfl) ?_
  refine lv_iload_n hx hb dL_1173 rfl (lv_at hl 3 rfl) ?_
  refine lv_iconst (v := nI 2) hx hb dL_1174 (by decide) ?_
  refine lv_iadd hx hb dL_1175 ?_
  rw [nI_add]
  refine va_sld hx hb hX hbl hbA hW.2.2.2.2 (vp_in_nI (show i + 2 < L by omega) (by omega)) dL_1176 ?_
  rw [nI_clamp (show i + 2 < 2 ^ 31 by omega)]
  have h0 := hI.2.2.2.2.2.2.2.2.2.2.2.2.2.2.2.2.2.2.2.2.2.2.2.2.2.2.2.2.2.1 (xs (i + 1)) (xs (i + 2)) _ _ hv
  refine lcX (as := [.int (xs (i + 1)), .int (xs (i + 2))]) (rest := []) F (by decide) (by decide) (by decide) rfl ll_X11_next (lPi (wk_X11_next h0)) (Nat.le_of_ble_eq_true rfl) rfl (by decide) hW hc hs hl.1 dL_1177 ?_
  rintro _ A H1 locs1 ⟨r1, rfl, h0⟩ hW1
  refine lv_aload_n hx hb dL_1180 rfl (lv_at hl 2 rfl) ?_
  refine lv_aload_n hx hb dL_1181 rfl (lv_at hl 0 rfl) ?_
  refine lv_iload_n hx hb dL_1182 rfl (lv_at hl 3 rfl) ?_
  refine lv_iconst (v := nI 1) hx hb dL_1183 (by decide) ?_
  refine lv_iadd hx hb dL_1184 ?_
  rw [nI_add]
  refine va_sld hx hb hX hbl hbA hW1.2.2.2.2 (vp_in_nI (show i + 1 < L by omega) (by omega)) dL_1185 ?_
  rw [nI_clamp (show i + 1 < 2 ^ 31 by omega)]
  refine lv_aload_n hx hb dL_1186 rfl (lv_at hl 0 rfl) ?_
  refine lv_iload_n hx hb dL_1187 rfl (lv_at hl 3 rfl) ?_
  refine lv_iconst (v := nI 2) hx hb dL_1188 (by decide) ?_
  refine lv_iadd hx hb dL_1189 ?_
  rw [nI_add]
  refine va_sld hx hb hX hbl hbA hW1.2.2.2.2 (vp_in_nI (show i + 2 < L by omega) (by omega)) dL_1190 ?_
  rw [nI_clamp (show i + 2 < 2 ^ 31 by omega)]
  refine lcM (as := [.int (xs (i + 1)), .int (xs (i + 2))]) (rest := [.int r1]) F (by decide) (by decide) (by decide) rfl ll_X12_next_ (lPi (wk_X12_next_ h0)) (Nat.le_of_ble_eq_true rfl) rfl (by simp only [aCat, Value.category]; decide) hW1 hc hs hl.1 dL_1191 ?_
  rintro _ B H2 locs2 ⟨r2, rfl, rfl, hv2⟩ hW2
  refine lv_icmp_eq (tgt := 1331) hx hb dL_1194 (by decide) (fun _ => ?_) (fun q => absurd rfl q)
  exact k A B H2 locs2 hv2 hW2
set_option maxHeartbeats 4000000 in
theorem lc_30 {Inv : wM → wM → Prop} (hI : lawOk Inv) {i : Nat} (F : LFx p l s m c b L xs D dA adX adM) (hL : L ≤ 3072) (hi : i + 6 ≤ L) (hv : Inv Mx Mm) (hW : LWd D dA adX adM s Mx Mm H locs) (hc : cells ≤ 600000) (hs : slots ≤ 7302250) (hl : lv_has rl 4 [(0, .ref b), (1, .ref (adX 0)), (2, .ref (adM 0)), (3, .int (nI i))])
    (k : ∀ (A B : wM) (H1 : Heap) (locs1 : List Loc), Inv A B → LWd D dA adX adM s A B H1 locs1 → W p l e room_1 s m #[Value.ref b] below meth c H1 locs1 cells slots Q (F0 m 1331 rl [])) : W p l e room_1 s m #[Value.ref b] below meth c H locs cells slots Q (F0 m 1199 rl []) := by
  obtain ⟨hx, hb, hml, hown, hts, hX, hbl, -⟩ := id F
  have hbA : ¬ lawA s b := Nat.not_le.mpr hbl
  refine lv_aload_n hx hb dL_1199 rfl (lv_at hl 1 rfl) ?_
  refine lv_aload_n hx hb dL_1200 rfl (lv_at hl 0 rfl) ?_
  refine lv_iload_n hx hb dL_1201 rfl (lv_at hl 3 rfl) ?_
  refine lv_iconst (v := nI 1) hx hb dL_1202 (by decide) ?_
  refine lv_iadd hx hb dL_1203 ?_
  rw [nI_add]
  refine va_sld hx hb hX hbl hbA hW.2.2.2.2 (vp_in_nI (show i + 1 < L by omega) (by omega)) dL_1204 ?_
  rw [nI_clamp (show i + 1 < 2 ^ 31 by omega)]
  have h0 := hI.2.2.2.2.2.2.2.2.2.2.2.2.2.2.2.2.2.2.2.2.2.2.2.2.2.2.2.2.2.2.1 (xs (i + 1)) _ _ hv
  refine lcX (as := [.int (xs (i + 1))]) (rest := []) F (by decide) (by decide) (by decide) rfl ll_X11_cost (lPi (wk_X11_cost h0)) (Nat.le_of_ble_eq_true rfl) rfl (by decide) hW hc hs hl.1 dL_1205 ?_
  rintro _ A H1 locs1 ⟨r1, rfl, h0⟩ hW1
  refine lv_aload_n hx hb dL_1208 rfl (lv_at hl 2 rfl) ?_
  refine lv_aload_n hx hb dL_1209 rfl (lv_at hl 0 rfl) ?_
  refine lv_iload_n hx hb dL_1210 rfl (lv_at hl 3 rfl) ?_
  refine lv_iconst (v := nI 1) hx hb dL_1211 (by decide) ?_
  refine lv_iadd hx hb dL_1212 ?_
  rw [nI_add]
  refine va_sld hx hb hX hbl hbA hW1.2.2.2.2 (vp_in_nI (show i + 1 < L by omega) (by omega)) dL_1213 ?_
  rw [nI_clamp (show i + 1 < 2 ^ 31 by omega)]
  refine lcM (as := [.int (xs (i + 1))]) (rest := [.int r1]) F (by decide) (by decide) (by decide) rfl ll_X12_cost (lPi (wk_X12_cost h0)) (Nat.le_of_ble_eq_true rfl) rfl (by simp only [aCat, Value.category]; decide) hW1 hc hs hl.1 dL_1214 ?_
  rintro _ B H2 locs2 ⟨r2, rfl, rfl, hv2⟩ hW2
  refine lv_icmp_eq (tgt := 1331) hx hb dL_1217 (by decide) (fun _ => ?_) (fun q => absurd rfl q)
  exact k A B H2 locs2 hv2 hW2
set_option maxHeartbeats 4000000 in
theorem lc_31 {Inv : wM → wM → Prop} (hI : lawOk Inv) {i : Nat} (F : LFx p l s m c b L xs D dA adX adM) (hL : L ≤ 3072) (hi : i + 6 ≤ L) (hv : Inv Mx Mm) (hW : LWd D dA adX adM s Mx Mm H locs) (hc : cells ≤ 600000) (hs : slots ≤ 7302250) (hl : lv_has rl 4 [(0, .ref b), (1, .ref (adX 0)), (2, .ref (adM 0)), (3, .int (nI i))])
    (k : ∀ (A B : wM) (H1 : Heap) (locs1 : List Loc), Inv A B → LWd D dA adX adM s A B H1 locs1 → W p l e room_1 s m #[Value.ref b] below meth c H1 locs1 cells slots Q (F0 m 1331 rl [])) : W p l e room_1 s m #[Value.ref b] below meth c H locs cells slots Q (F0 m 1222 rl []) := by
  obtain ⟨hx, hb, hml, hown, hts, hX, hbl, -⟩ := id F
  have hbA : ¬ lawA s b := Nat.not_le.mpr hbl
  refine lv_aload_n hx hb dL_1222 rfl (lv_at hl 1 rfl) ?_
  refine lv_aload_n hx hb dL_1223 rfl (lv_at hl 0 rfl) ?_
  refine lv_iload_n hx hb dL_1224 rfl (lv_at hl 3 rfl) ?_
  refine lv_iconst (v := nI 1) hx hb dL_1225 (by decide) ?_
  refine lv_iadd hx hb dL_1226 ?_
  rw [nI_add]
  refine va_sld hx hb hX hbl hbA hW.2.2.2.2 (vp_in_nI (show i + 1 < L by omega) (by omega)) dL_1227 ?_
  rw [nI_clamp (show i + 1 < 2 ^ 31 by omega)]
  refine lv_aload_n hx hb dL_1228 rfl (lv_at hl 0 rfl) ?_
  refine lv_iload_n hx hb dL_1229 rfl (lv_at hl 3 rfl) ?_
  refine lv_iconst (v := nI 2) hx hb dL_1230 (by decide) ?_
  refine lv_iadd hx hb dL_1231 ?_
  rw [nI_add]
  refine va_sld hx hb hX hbl hbA hW.2.2.2.2 (vp_in_nI (show i + 2 < L by omega) (by omega)) dL_1232 ?_
  rw [nI_clamp (show i + 2 < 2 ^ 31 by omega)]
  refine lv_aload_n hx hb dL_1233 rfl (lv_at hl 0 rfl) ?_
  refine lv_iload_n hx hb dL_1234 rfl (lv_at hl 3 rfl) ?_
  refine lv_iconst (v := nI 3) hx hb dL_1235 (by decide) ?_
  refine lv_iadd hx hb dL_1236 ?_
  rw [nI_add]
  refine va_sld hx hb hX hbl hbA hW.2.2.2.2 (vp_in_nI (show i + 3 < L by omega) (by omega)) dL_1237 ?_
  rw [nI_clamp (show i + 3 < 2 ^ 31 by omega)]
  have h0 := hI.2.2.2.2.2.2.2.2.2.2.2.2.2.2.2.2.2.2.2.2.2.2.2.2.2.2.2.2.2.2.2.1 (xs (i + 1)) (xs (i + 2)) (xs (i + 3)) _ _ hv
  refine lcX (as := [.int (xs (i + 1)), .int (xs (i + 2)), .int (xs (i + 3))]) (rest := []) F (by decide) (by decide) (by decide) rfl ll_X11_sheet (lPi (wk_X11_sheet h0)) (Nat.le_of_ble_eq_true rfl) rfl (by decide) hW hc hs hl.1 dL_1238 ?_
  rintro _ A H1 locs1 ⟨r1, rfl, h0⟩ hW1
  refine lv_aload_n hx hb dL_1241 rfl (lv_at hl 2 rfl) ?_
  refine lv_aload_n hx hb dL_1242 rfl (lv_at hl 0 rfl) ?_
  refine lv_iload_n hx hb dL_1243 rfl (lv_at hl 3 rfl) ?_
  refine lv_iconst (v := nI 1) hx hb dL_1244 (by decide) ?_
  refine lv_iadd hx hb dL_1245 ?_
  rw [nI_add]
  refine va_sld hx hb hX hbl hbA hW1.2.2.2.2 (vp_in_nI (show i + 1 < L by omega) (by omega)) dL_1246 ?_
  rw [nI_clamp (show i + 1 < 2 ^ 31 by omega)]
  refine lv_aload_n hx hb dL_1247 rfl (lv_at hl 0 rfl) ?_
  refine lv_iload_n hx hb dL_1248 rfl (lv_at hl 3 rfl) ?_
  refine lv_iconst (v := nI 2) hx hb dL_1249 (by decide) ?_
  refine lv_iadd hx hb dL_1250 ?_
  rw [nI_add]
  refine va_sld hx hb hX hbl hbA hW1.2.2.2.2 (vp_in_nI (show i + 2 < L by omega) (by omega)) dL_1251 ?_
  rw [nI_clamp (show i + 2 < 2 ^ 31 by omega)]
  refine lv_aload_n hx hb dL_1252 rfl (lv_at hl 0 rfl) ?_
  refine lv_iload_n hx hb dL_1253 rfl (lv_at hl 3 rfl) ?_
  refine lv_iconst (v := nI 3) hx hb dL_1254 (by decide) ?_
  refine lv_iadd hx hb dL_1255 ?_
  rw [nI_add]
  refine va_sld hx hb hX hbl hbA hW1.2.2.2.2 (vp_in_nI (show i + 3 < L by omega) (by omega)) dL_1256 ?_
  rw [nI_clamp (show i + 3 < 2 ^ 31 by omega)]
  refine lcM (as := [.int (xs (i + 1)), .int (xs (i + 2)), .int (xs (i + 3))]) (rest := [.int r1]) F (by decide) (by decide) (by decide) rfl ll_X12_sheet (lPi (wk_X12_sheet h0)) (Nat.le_of_ble_eq_true rfl) rfl (by simp only [aCat, Value.category]; decide) hW1 hc hs hl.1 dL_1257 ?_
  rintro _ B H2 locs2 ⟨r2, rfl, rfl, hv2⟩ hW2
  refine lv_icmp_eq (tgt := 1331) hx hb dL_1260 (by decide) (fun _ => ?_) (fun q => absurd rfl q)
  exact k A B H2 locs2 hv2 hW2
set_option maxHeartbeats 4000000 in
theorem lc_32 {Inv : wM → wM → Prop} (hI : lawOk Inv) {i : Nat} (F : LFx p l s m c b L xs D dA adX adM) (hL : L ≤ 3072) (hi : i + 6 ≤ L) (hv : Inv Mx Mm) (hW : LWd D dA adX adM s Mx Mm H locs) (hc : cells ≤ 600000) (hs : slots ≤ 7302250) (hl : lv_has rl 4 [(0, .ref b), (1, .ref (adX 0)), (2, .ref (adM 0)), (3, .int (nI i))])
    (k : ∀ (A B : wM) (H1 : Heap) (locs1 : List Loc), Inv A B → LWd D dA adX adM s A B H1 locs1 → W p l e room_1 s m #[Value.ref b] below meth c H1 locs1 cells slots Q (F0 m 1331 rl [])) : W p l e room_1 s m #[Value.ref b] below meth c H locs cells slots Q (F0 m 1265 rl []) := by
  obtain ⟨hx, hb, hml, hown, hts, hX, hbl, -⟩ := id F
  have hbA : ¬ lawA s b := Nat.not_le.mpr hbl
  refine lv_aload_n hx hb dL_1265 rfl (lv_at hl 1 rfl) ?_
  refine lv_aload_n hx hb dL_1266 rfl (lv_at hl 0 rfl) ?_
  refine lv_iload_n hx hb dL_1267 rfl (lv_at hl 3 rfl) ?_
  refine lv_iconst (v := nI 1) hx hb dL_1268 (by decide) ?_
  refine lv_iadd hx hb dL_1269 ?_
  rw [nI_add]
  refine va_sld hx hb hX hbl hbA hW.2.2.2.2 (vp_in_nI (show i + 1 < L by omega) (by omega)) dL_1270 ?_
  rw [nI_clamp (show i + 1 < 2 ^ 31 by omega)]
  refine lv_aload_n hx hb dL_1271 rfl (lv_at hl 0 rfl) ?_
  refine lv_iload_n hx hb dL_1272 rfl (lv_at hl 3 rfl) ?_
  refine lv_iconst (v := nI 2) hx hb dL_1273 (by decide) ?_
  refine lv_iadd hx hb dL_1274 ?_
  rw [nI_add]
  refine va_sld hx hb hX hbl hbA hW.2.2.2.2 (vp_in_nI (show i + 2 < L by omega) (by omega)) dL_1275 ?_
  rw [nI_clamp (show i + 2 < 2 ^ 31 by omega)]
  refine lv_aload_n hx hb dL_1276 rfl (lv_at hl 0 rfl) ?_
  refine lv_iload_n hx hb dL_1277 rfl (lv_at hl 3 rfl) ?_
  refine lv_iconst (v := nI 3) hx hb dL_1278 (by decide) ?_
  refine lv_iadd hx hb dL_1279 ?_
  rw [nI_add]
  refine va_sld hx hb hX hbl hbA hW.2.2.2.2 (vp_in_nI (show i + 3 < L by omega) (by omega)) dL_1280 ?_
  rw [nI_clamp (show i + 3 < 2 ^ 31 by omega)]
  have h0 := hI.2.2.2.2.2.2.2.2.2.2.2.2.2.2.2.2.2.2.2.2.2.2.2.2.2.2.2.2.2.2.2.2.1 (xs (i + 1)) (xs (i + 2)) (xs (i + 3)) _ _ hv
  refine lcX (as := [.int (xs (i + 1)), .int (xs (i + 2)), .int (xs (i + 3))]) (rest := []) F (by decide) (by decide) (by decide) rfl ll_X11_lay (lPi (wk_X11_lay h0)) (Nat.le_of_ble_eq_true rfl) rfl (by decide) hW hc hs hl.1 dL_1281 ?_
  rintro _ A H1 locs1 ⟨r1, rfl, h0⟩ hW1
  refine lv_aload_n hx hb dL_1284 rfl (lv_at hl 2 rfl) ?_
  refine lv_aload_n hx hb dL_1285 rfl (lv_at hl 0 rfl) ?_
  refine lv_iload_n hx hb dL_1286 rfl (lv_at hl 3 rfl) ?_
  refine lv_iconst (v := nI 1) hx hb dL_1287 (by decide) ?_
  refine lv_iadd hx hb dL_1288 ?_
  rw [nI_add]
  refine va_sld hx hb hX hbl hbA hW1.2.2.2.2 (vp_in_nI (show i + 1 < L by omega) (by omega)) dL_1289 ?_
  rw [nI_clamp (show i + 1 < 2 ^ 31 by omega)]
  refine lv_aload_n hx hb dL_1290 rfl (lv_at hl 0 rfl) ?_
  refine lv_iload_n hx hb dL_1291 rfl (lv_at hl 3 rfl) ?_
  refine lv_iconst (v := nI 2) hx hb dL_1292 (by decide) ?_
  refine lv_iadd hx hb dL_1293 ?_
  rw [nI_add]
  refine va_sld hx hb hX hbl hbA hW1.2.2.2.2 (vp_in_nI (show i + 2 < L by omega) (by omega)) dL_1294 ?_
  rw [nI_clamp (show i + 2 < 2 ^ 31 by omega)]
  refine lv_aload_n hx hb dL_1295 rfl (lv_at hl 0 rfl) ?_
  refine lv_iload_n hx hb dL_1296 rfl (lv_at hl 3 rfl) ?_
  refine lv_iconst (v := nI 3) hx hb dL_1297 (by decide) ?_
  refine lv_iadd hx hb dL_1298 ?_
  rw [nI_add]
  refine va_sld hx hb hX hbl hbA hW1.2.2.2.2 (vp_in_nI (show i + 3 < L by omega) (by omega)) dL_1299 ?_
  rw [nI_clamp (show i + 3 < 2 ^ 31 by omega)]
  refine lcM (as := [.int (xs (i + 1)), .int (xs (i + 2)), .int (xs (i + 3))]) (rest := [.int r1]) F (by decide) (by decide) (by decide) rfl ll_X12_lay (lPi (wk_X12_lay h0)) (Nat.le_of_ble_eq_true rfl) rfl (by simp only [aCat, Value.category]; decide) hW1 hc hs hl.1 dL_1300 ?_
  rintro _ B H2 locs2 ⟨r2, rfl, rfl, hv2⟩ hW2
  refine lv_icmp_eq (tgt := 1331) hx hb dL_1303 (by decide) (fun _ => ?_) (fun q => absurd rfl q)
  exact k A B H2 locs2 hv2 hW2
set_option maxHeartbeats 4000000 in
theorem lc_33 {Inv : wM → wM → Prop} (hI : lawOk Inv) {i : Nat} (F : LFx p l s m c b L xs D dA adX adM) (hL : L ≤ 3072) (hi : i + 6 ≤ L) (hv : Inv Mx Mm) (hW : LWd D dA adX adM s Mx Mm H locs) (hc : cells ≤ 600000) (hs : slots ≤ 7302250) (hl : lv_has rl 4 [(0, .ref b), (1, .ref (adX 0)), (2, .ref (adM 0)), (3, .int (nI i))])
    (k : ∀ (A B : wM) (H1 : Heap) (locs1 : List Loc), Inv A B → LWd D dA adX adM s A B H1 locs1 → W p l e room_1 s m #[Value.ref b] below meth c H1 locs1 cells slots Q (F0 m 1331 rl [])) : W p l e room_1 s m #[Value.ref b] below meth c H locs cells slots Q (F0 m 1308 rl []) := by
  obtain ⟨hx, hb, hml, hown, hts, hX, hbl, -⟩ := id F
  have hbA : ¬ lawA s b := Nat.not_le.mpr hbl
  refine lv_aload_n hx hb dL_1308 rfl (lv_at hl 1 rfl) ?_
  refine lv_aload_n hx hb dL_1309 rfl (lv_at hl 0 rfl) ?_
  refine lv_iload_n hx hb dL_1310 rfl (lv_at hl 3 rfl) ?_
  refine lv_iconst (v := nI 1) hx hb dL_1311 (by decide) ?_
  refine lv_iadd hx hb dL_1312 ?_
  rw [nI_add]
  refine va_sld hx hb hX hbl hbA hW.2.2.2.2 (vp_in_nI (show i + 1 < L by omega) (by omega)) dL_1313 ?_
  rw [nI_clamp (show i + 1 < 2 ^ 31 by omega)]
  have h0 := hI.2.2.2.2.2.2.2.2.2.2.2.2.2.2.2.2.2.2.2.2.2.2.2.2.2.2.2.2.2.2.2.2.2 (xs (i + 1)) _ _ hv
  refine lcX (as := [.int (xs (i + 1))]) (rest := []) F (by decide) (by decide) (by decide) rfl ll_X11_count (lPi (wk_X11_count h0)) (Nat.le_of_ble_eq_true rfl) rfl (by decide) hW hc hs hl.1 dL_1314 ?_
  rintro _ A H1 locs1 ⟨r1, rfl, h0⟩ hW1
  refine lv_aload_n hx hb dL_1317 rfl (lv_at hl 2 rfl) ?_
  refine lv_aload_n hx hb dL_1318 rfl (lv_at hl 0 rfl) ?_
  refine lv_iload_n hx hb dL_1319 rfl (lv_at hl 3 rfl) ?_
  refine lv_iconst (v := nI 1) hx hb dL_1320 (by decide) ?_
  refine lv_iadd hx hb dL_1321 ?_
  rw [nI_add]
  refine va_sld hx hb hX hbl hbA hW1.2.2.2.2 (vp_in_nI (show i + 1 < L by omega) (by omega)) dL_1322 ?_
  rw [nI_clamp (show i + 1 < 2 ^ 31 by omega)]
  refine lcM (as := [.int (xs (i + 1))]) (rest := [.int r1]) F (by decide) (by decide) (by decide) rfl ll_X12_count (lPi (wk_X12_count h0)) (Nat.le_of_ble_eq_true rfl) rfl (by simp only [aCat, Value.category]; decide) hW1 hc hs hl.1 dL_1323 ?_
  rintro _ B H2 locs2 ⟨r2, rfl, rfl, hv2⟩ hW2
  refine lv_icmp_eq (tgt := 1331) hx hb dL_1326 (by decide) (fun _ => ?_) (fun q => absurd rfl q)
  exact k A B H2 locs2 hv2 hW2
end LAW
