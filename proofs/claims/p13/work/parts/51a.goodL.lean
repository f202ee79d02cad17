set_option maxRecDepth 20000 in
theorem aw_wsX7_init : wsX7_init.all goodWord = true := by decide +kernel
set_option maxRecDepth 20000 in
theorem aw_wsX8_init : wsX8_init.all goodWord = true := by decide +kernel
set_option maxRecDepth 20000 in
theorem aw_wsX7_program : wsX7_program.all goodWord = true := by decide +kernel
set_option maxRecDepth 20000 in
theorem aw_wsX8_program : wsX8_program.all goodWord = true := by decide +kernel
set_option maxRecDepth 20000 in
theorem aw_wsX7_ofRule : wsX7_ofRule.all goodWord = true := by decide +kernel
set_option maxRecDepth 20000 in
theorem aw_wsX8_ofRule : wsX8_ofRule.all goodWord = true := by decide +kernel
set_option maxRecDepth 20000 in
theorem aw_wsX7_ofRelation : wsX7_ofRelation.all goodWord = true := by decide +kernel
set_option maxRecDepth 20000 in
theorem aw_wsX8_ofRelation : wsX8_ofRelation.all goodWord = true := by decide +kernel
set_option maxRecDepth 20000 in
theorem aw_wsX7_form : wsX7_form.all goodWord = true := by decide +kernel
set_option maxRecDepth 20000 in
theorem aw_wsX8_form : wsX8_form.all goodWord = true := by decide +kernel
set_option maxRecDepth 20000 in
theorem aw_wsX7_tell : wsX7_tell.all goodWord = true := by decide +kernel
set_option maxRecDepth 20000 in
theorem aw_wsX8_tell : wsX8_tell.all goodWord = true := by decide +kernel
set_option maxRecDepth 20000 in
theorem aw_wsX7_ofFact : wsX7_ofFact.all goodWord = true := by decide +kernel
set_option maxRecDepth 20000 in
theorem aw_wsX8_ofFact : wsX8_ofFact.all goodWord = true := by decide +kernel
set_option maxRecDepth 20000 in
theorem aw_wsX7_day : wsX7_day.all goodWord = true := by decide +kernel
set_option maxRecDepth 20000 in
theorem aw_wsX8_day : wsX8_day.all goodWord = true := by decide +kernel
set_option maxRecDepth 20000 in
theorem aw_wsX7_rounds : wsX7_rounds.all goodWord = true := by decide +kernel
set_option maxRecDepth 20000 in
theorem aw_wsX8_rounds : wsX8_rounds.all goodWord = true := by decide +kernel
set_option maxRecDepth 20000 in
theorem aw_wsX7_born : wsX7_born.all goodWord = true := by decide +kernel
set_option maxRecDepth 20000 in
theorem aw_wsX8_born : wsX8_born.all goodWord = true := by decide +kernel
set_option maxRecDepth 20000 in
theorem aw_wsX7_ranked : wsX7_ranked.all goodWord = true := by decide +kernel
set_option maxRecDepth 20000 in
theorem aw_wsX8_ranked : wsX8_ranked.all goodWord = true := by decide +kernel
set_option maxRecDepth 20000 in
theorem aw_wsX7_settled : wsX7_settled.all goodWord = true := by decide +kernel
set_option maxRecDepth 20000 in
theorem aw_wsX8_settled : wsX8_settled.all goodWord = true := by decide +kernel
set_option maxRecDepth 20000 in
theorem aw_wsX7_demands : wsX7_demands.all goodWord = true := by decide +kernel
set_option maxRecDepth 20000 in
theorem aw_wsX8_demands : wsX8_demands.all goodWord = true := by decide +kernel
set_option maxRecDepth 20000 in
theorem aw_wsX7_reading : wsX7_reading.all goodWord = true := by decide +kernel
set_option maxRecDepth 20000 in
theorem aw_wsX8_reading : wsX8_reading.all goodWord = true := by decide +kernel
set_option maxRecDepth 20000 in
theorem aw_wsX7_back : wsX7_back.all goodWord = true := by decide +kernel
set_option maxRecDepth 20000 in
theorem aw_wsX8_back : wsX8_back.all goodWord = true := by decide +kernel
set_option maxRecDepth 20000 in
theorem aw_wsX7_kinds : wsX7_kinds.all goodWord = true := by decide +kernel
set_option maxRecDepth 20000 in
theorem aw_wsX8_kinds : wsX8_kinds.all goodWord = true := by decide +kernel
set_option maxRecDepth 20000 in
theorem aw_wsX7_forms : wsX7_forms.all goodWord = true := by decide +kernel
set_option maxRecDepth 20000 in
theorem aw_wsX8_forms : wsX8_forms.all goodWord = true := by decide +kernel
set_option maxRecDepth 20000 in
theorem aw_wsX7_odds : wsX7_odds.all goodWord = true := by decide +kernel
set_option maxRecDepth 20000 in
theorem aw_wsX8_odds : wsX8_odds.all goodWord = true := by decide +kernel
set_option maxRecDepth 20000 in
theorem aw_wsX7_sheet : wsX7_sheet.all goodWord = true := by decide +kernel
set_option maxRecDepth 20000 in
theorem aw_wsX8_sheet : wsX8_sheet.all goodWord = true := by decide +kernel
set_option maxRecDepth 20000 in
theorem aw_wsX7_lose : wsX7_lose.all goodWord = true := by decide +kernel
set_option maxRecDepth 20000 in
theorem aw_wsX8_lose : wsX8_lose.all goodWord = true := by decide +kernel
set_option maxRecDepth 20000 in
theorem aw_wsX7_put : wsX7_put.all goodWord = true := by decide +kernel
set_option maxRecDepth 20000 in
theorem aw_wsX8_put : wsX8_put.all goodWord = true := by decide +kernel
set_option maxRecDepth 20000 in
theorem aw_wsX7_cell : wsX7_cell.all goodWord = true := by decide +kernel
set_option maxRecDepth 20000 in
theorem aw_wsX8_cell : wsX8_cell.all goodWord = true := by decide +kernel
set_option maxRecDepth 20000 in
theorem aw_wsX7_copy : wsX7_copy.all goodWord = true := by decide +kernel
set_option maxRecDepth 20000 in
theorem aw_wsX8_copy : wsX8_copy.all goodWord = true := by decide +kernel
set_option maxRecDepth 20000 in
theorem aw_wsX7_speak : wsX7_speak.all goodWord = true := by decide +kernel
set_option maxRecDepth 20000 in
theorem aw_wsX8_speak : wsX8_speak.all goodWord = true := by decide +kernel
set_option maxRecDepth 20000 in
theorem aw_wsX7_quote : wsX7_quote.all goodWord = true := by decide +kernel
set_option maxRecDepth 20000 in
theorem aw_wsX8_quote : wsX8_quote.all goodWord = true := by decide +kernel
set_option maxRecDepth 20000 in
theorem aw_wsX7_as : wsX7_as.all goodWord = true := by decide +kernel
set_option maxRecDepth 20000 in
theorem aw_wsX8_as : wsX8_as.all goodWord = true := by decide +kernel
set_option maxRecDepth 20000 in
theorem aw_wsX7_trace : wsX7_trace.all goodWord = true := by decide +kernel
set_option maxRecDepth 20000 in
theorem aw_wsX8_trace : wsX8_trace.all goodWord = true := by decide +kernel
set_option maxRecDepth 20000 in
theorem aw_wsX7_fault : wsX7_fault.all goodWord = true := by decide +kernel
set_option maxRecDepth 20000 in
theorem aw_wsX8_fault : wsX8_fault.all goodWord = true := by decide +kernel
set_option maxRecDepth 20000 in
theorem aw_wsX7_many : wsX7_many.all goodWord = true := by decide +kernel
set_option maxRecDepth 20000 in
theorem aw_wsX8_many : wsX8_many.all goodWord = true := by decide +kernel
